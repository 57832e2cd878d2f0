/**
 * The boundaries of operations, their order, laying and units, promises 4, 8 and 10, each under the
 * sentence of the document that names it.
 */
public final class LayingEdgesTest {
    private static final int N = CycleSynthesis.NONE;

    public static void main(String[] args) {
        numberedAsTheyCome();
        aMoveIfEHasNone();
        kinds();
        behindWhoseValueIsUsed();
        behindWhoGivesWhatIsUsed();
        behindWhoGivesTheSame();
        behindWhoUsesWhatIsGiven();
        behindWrites();
        notBehind();
        orderIsWithinABlock();
        latenciesOfEachKind();
        heightOfTheLastOne();
        heightOfTheGreatest();
        haveEndedBefore();
        higherOnesFirst();
        ofTheSameHeightLesserNumbers();
        asLongAsAUnitIsFree();
        unitsOfOtherKindsDontCount();
        forAsLongAsItsLatency();
        theFreeUnitWithTheLeastNumber();
        ofMovesThereAreAlwaysEnough();
        movesCountInEachCycle();
        upToTheLastEnd();
        oneCycleAtLeast();
        theGreatestNumberAnd1();
        noOtherTold();
        noOperationBeforeTheFirstOrBehindTheLast();
        noOtherWhat();
        theOperationIsNamedFirst();
        kindsOfUnits();
        manyOfUnits();
        latenciesOfUnits();
        addersTakeOneCycle();
        whatUnitsRefuseChangesNothing();
        blocksAreLaidAnew();
        unitsPutTheMachineToItsBeginning();
        unitsStayForOtherPrograms();
        the200Longest();
        Checks.finish();
    }

    private static CycleSynthesis slow(String text) {
        return Checks.made(text, 4, 4, 4, 4, 3);
    }

    private static void dueBegins(String text, int... want) {
        Checks.dueOfOperations(text, slow(text), 2, want);
    }

    /** "of a sign those of the left side, of the right one, then its own; ..." */
    private static void numberedAsTheyCome() {
        String sign = "a=b*c+m[d];";
        Checks.dueOfOperations(sign, Checks.made(sign), 0, 1, 2, 0);
        String right = "a=m[d]<b*c;";
        Checks.dueOfOperations(right, Checks.made(right), 0, 2, 1, 0);
        String row = "a=b*c-d*e+m[f];";
        Checks.dueOfOperations(row, Checks.made(row), 0, 1, 1, 0, 2, 0);
        String read = "a=m[b*c+d];";
        Checks.dueOfOperations(read, Checks.made(read), 0, 1, 0, 2);
        String write = "m[b*c]=m[d]+e;";
        Checks.dueOfOperations(write, Checks.made(write), 0, 1, 2, 0, 2);
        String plain = "m[b]=c;";
        Checks.dueOfOperations(plain, Checks.made(plain), 0, 2);
        String given = "a=b*c;d=e;m[1]=f;g=h-1;";
        Checks.dueOfOperations(given, Checks.made(given), 0, 1, 3, 2, 0);
        String choice = "if a*b{c=1;}else{d=m[1];}";
        Checks.dueOfOperations(choice, Checks.made(choice), 0, 1, 3, 2);
    }

    /** "of x = E those of E; but if E has none, a MOVE." */
    private static void aMoveIfEHasNone() {
        for (String none : new String[] {"a=b;", "a=1;", "a=a;", "a=(b);", "a=((1));"}) {
            Checks.dueOfOperations(none, Checks.made(none), 0, 3);
        }
        for (String one : new String[] {"a=b+0;", "a=(b+0);", "a=0<b;", "a=b=b;"}) {
            Checks.dueOfOperations(one, Checks.made(one), 0, 0);
        }
        Checks.dueOfOperations("a=m[b];", Checks.made("a=m[b];"), 0, 2);
        Checks.dueOfOperations("a=1*1*1;", Checks.made("a=1*1*1;"), 0, 1, 1);
    }

    /** "KINDS: 0 adders, for + - < and =; 1 multipliers; 2 ports, for reads and writes; 3 moves." */
    private static void kinds() {
        String all = "a=b+c;a=b-c;a=b<c;a=b=c;a=b*c;a=m[b];m[a]=b;a=b;";
        Checks.dueOfOperations(all, Checks.made(all), 0, 0, 0, 0, 0, 1, 2, 2, 3);
    }

    /** "operation j comes BEHIND i ... if it uses i's value". */
    private static void behindWhoseValueIsUsed() {
        dueBegins("a=b*c+d;", 0, 4);
        dueBegins("a=d+b*c;", 0, 4);
        dueBegins("a=m[b*c];", 0, 4);
        dueBegins("m[b*c]=d;", 0, 4);
        dueBegins("m[d]=b*c;", 0, 4);
        dueBegins("a=b*c*d;", 0, 4);
        dueBegins("a=b*c<d*e;", 0, 0, 4);
    }

    /** "if i gives a variable its value that j uses". */
    private static void behindWhoGivesWhatIsUsed() {
        dueBegins("a=b*c;d=a+1;", 0, 4);
        dueBegins("a=b*c;d=1+a;", 0, 4);
        dueBegins("a=b*c;d=a;", 0, 4);
        dueBegins("a=b*c;d=m[a];", 0, 4);
        dueBegins("a=b*c;m[a]=d;", 0, 4);
        dueBegins("a=b*c;m[d]=a;", 0, 4);
        dueBegins("a=1;b=a*c;", 0, 1);
        // Of all operations of an E only the last one gives the variable.
        dueBegins("a=b*c+d*e;f=a+1;", 0, 0, 4, 5);
        dueBegins("a=b*c+1;f=a;", 0, 4, 5);
    }

    /** "or that j gives one". */
    private static void behindWhoGivesTheSame() {
        dueBegins("a=b*c;a=1;", 0, 4);
        dueBegins("a=b*c;a=d+e;", 0, 4);
        dueBegins("a=b*c;a=d*e;", 0, 4);
        dueBegins("a=1;a=2;a=3;", 0, 1, 2);
        dueBegins("a=b*c;d=b*c;", 0, 0);
        dueBegins("a=b*c;a=d*e+f;", 0, 0, 4);
    }

    /** "if j gives a value to a variable that i uses". */
    private static void behindWhoUsesWhatIsGiven() {
        dueBegins("a=b*c;b=1;", 0, 4);
        dueBegins("a=b*c;c=1;", 0, 4);
        dueBegins("a=b*c;b=d+e;", 0, 4);
        dueBegins("a=m[b];b=1;", 0, 3);
        dueBegins("m[b]=c;b=1;", 0, 3);
        dueBegins("m[c]=b;b=1;", 0, 3);
        dueBegins("a=b;b=1;", 0, 1);
        dueBegins("a=b*c+d;b=1;d=2;", 0, 4, 4, 5);
        dueBegins("a=a*a;", 0);
        dueBegins("a=a*b+c;", 0, 4);
    }

    /** "if one is a write, and the other a read or a write." */
    private static void behindWrites() {
        dueBegins("m[1]=a;b=m[2];", 0, 3);
        dueBegins("a=m[1];m[2]=b;", 0, 3);
        dueBegins("m[1]=a;m[2]=b;", 0, 3);
        dueBegins("a=m[1];b=m[1];", 0, 0);
        dueBegins("a=m[1];m[2]=b;c=m[3];", 0, 3, 6);
        dueBegins("a=m[1]+m[2];m[3]=b;", 0, 0, 3, 3);
        dueBegins("m[1]=m[2];", 0, 3);
        dueBegins("m[m[1]]=2;", 0, 3);
    }

    /** What none of these is true of can begin at once. */
    private static void notBehind() {
        dueBegins("a=b*c;d=e;", 0, 0);
        dueBegins("a=b*c;d=b+c;", 0, 0);
        dueBegins("a=b*c;d=e*f;g=m[h];", 0, 0, 0);
        dueBegins("m[1]=a;b=c*d;e=1;", 0, 0, 0);
        dueBegins("a=m[1];b=c*d;e=1;", 0, 0, 0);
        dueBegins("a=b*c;d=1;e=2;", 0, 0, 0);
        dueBegins("a=1*2;b=1;", 0, 0);
        // A write comes behind reads and writes, and behind no other one.
        dueBegins("a=1;m[1]=b;", 0, 0);
        dueBegins("a=b+c;m[1]=b;", 0, 0);
        dueBegins("a=b*c;m[1]=b;", 0, 0);
        dueBegins("m[1]=b;a=1;", 0, 0);
        dueBegins("m[1]=b;a=b+c;", 0, 0);
        dueBegins("m[1]=b;a=b*c;", 0, 0);
        dueBegins("a=1;b=m[1];", 0, 0);
        dueBegins("a=b+c;b=m[1];", 0, 1);
        dueBegins("a=c*d;b=m[1];", 0, 0);
    }

    /** "ORDER in a block". */
    private static void orderIsWithinABlock() {
        dueBegins("a=b*c;if a{d=a;}", 0, 0);
        dueBegins("a=b*c;while a{a=a*a;m[1]=a;}b=m[2];", 0, 0, 4, 0);
        Checks.dueOfOperations("heights", slow("a=b*c;if a{d=a;}"), 3, 4, 1);
    }

    /** "LATENCIES: adders and moves take 1 cycle, multipliers and ports as many as are told." */
    private static void latenciesOfEachKind() {
        for (int latency = 1; latency <= 4; latency++) {
            dueLatency("a=b*c;d=a+e;", 1, latency, latency);
            dueLatency("a=m[b];d=a+e;", 2, latency, latency);
            dueLatency("m[b]=c;d=m[e];", 2, latency, latency);
            dueLatency("a=b+c;d=a+e;", 1, latency, 1);
            dueLatency("a=b+c;d=a+e;", 2, latency, 1);
            dueLatency("a=b;d=a;", 1, latency, 1);
            dueLatency("a=b;d=a;", 2, latency, 1);
            dueLatency("a=m[b];d=a+e;", 1, latency, 1);
            dueLatency("a=b*c;d=a+e;", 2, latency, 1);
        }
    }

    private static void dueLatency(String text, int kind, int told, int want) {
        CycleSynthesis x = Checks.made(text);
        x.units(kind, 1, told);
        Checks.due(text + " with " + told + " of kind " + kind + ": begin", x.operation(1, 2), want);
        Checks.due(text + " with " + told + " of kind " + kind + ": height",
            x.operation(0, 3), want + x.operation(1, 3));
    }

    /** "HEIGHT of an operation: its latency, and ... 0 if none does." */
    private static void heightOfTheLastOne() {
        for (int latency = 1; latency <= 4; latency++) {
            CycleSynthesis x = Checks.made("a=b*c;d=m[e];m[1]=2;f=g;h=1+2;");
            x.units(1, 1, latency);
            x.units(2, 1, 5 - latency);
            Checks.dueOfOperations("alone", x, 3, latency, 2 * (5 - latency), 5 - latency, 1, 1);
        }
    }

    /** "the greatest height of those that come behind it". */
    private static void heightOfTheGreatest() {
        Checks.dueOfOperations("one", slow("a=b+c;d=a;"), 3, 2, 1);
        Checks.dueOfOperations("two", slow("a=b+c;d=a;e=a*a;"), 3, 5, 1, 4);
        Checks.dueOfOperations("two turned", slow("a=b+c;d=a*a;e=a;"), 3, 5, 4, 1);
        Checks.dueOfOperations("three", slow("a=b+c;d=m[a];e=a*a;f=a;"), 3, 5, 3, 4, 1);
        Checks.dueOfOperations("a row", slow("a=b+c;d=a*a;e=m[d];f=e;"), 3, 9, 8, 4, 1);
        Checks.dueOfOperations("by a variable", slow("a=b+c;b=d*d;"), 3, 5, 4);
    }

    /** "all behind which they come have ended before": the cycle behind its last one is the first that may be. */
    private static void haveEndedBefore() {
        for (int latency = 1; latency <= 4; latency++) {
            CycleSynthesis x = Checks.made("a=b*c;d=a;e=d;f=1;");
            x.units(1, 1, latency);
            Checks.dueOfOperations("ended", x, 2, 0, latency, latency + 1, 0);
            x = Checks.made("a=b*c;d=e*f;g=a+d;", 1, 2, latency, 1, 1);
            Checks.dueOfOperations("both ended together", x, 2, 0, 0, latency);
            x.units(1, 1, latency);
            Checks.dueOfOperations("both ended in turn", x, 2, 0, latency, 2 * latency);
        }
    }

    /** "the higher ones first". */
    private static void higherOnesFirst() {
        Checks.dueOfOperations("lower", Checks.made("a=b+c;f=a;d=e+h;"), 2, 0, 1, 1);
        Checks.dueOfOperations("the same", Checks.made("a=b+c;f=a;d=e+h;g=d;"), 2, 0, 1, 1, 2);
        Checks.dueOfOperations("higher by one", Checks.made("a=b+c;f=a;d=e+h;g=d;b=g;"), 2, 1, 2, 0, 1, 2);
        Checks.dueOfOperations("higher by one latency", Checks.made("a=b+c;d=e+h;g=d*d;", 1, 1, 4, 1, 1), 2, 1, 0, 1);
        String rows = "a=h+1;b=h+2;c=b;d=h+3;e=d;f=e;";
        Checks.dueOfOperations(rows, Checks.made(rows), 3, 1, 2, 1, 3, 2, 1);
        Checks.dueOfOperations(rows, Checks.made(rows), 2, 2, 1, 2, 0, 1, 2);
    }

    /** "of the same height those with lesser numbers". */
    private static void ofTheSameHeightLesserNumbers() {
        for (String sign : new String[] {"+", "-", "<", "=", "*"}) {
            String four = "a=h" + sign + "1;b=h" + sign + "1;c=h" + sign + "1;d=h" + sign + "1;";
            Checks.dueOfOperations(four, Checks.made(four), 2, 0, 1, 2, 3);
        }
        String mixed = "a=h+1;b=h*1;c=h+1;d=h*1;";
        Checks.dueOfOperations(mixed, Checks.made(mixed), 2, 0, 0, 1, 1);
        String reads = "a=m[1];b=m[2];c=m[3];";
        Checks.dueOfOperations(reads, Checks.made(reads), 2, 0, 1, 2);
    }

    private static void dueFive(String text, int kind, int many, int latency) {
        CycleSynthesis x = Checks.made(text);
        x.units(kind, many, latency);
        int[] begins = new int[5];
        int[] units = new int[5];
        for (int i = 0; i < 5; i++) {
            begins[i] = i / many * latency;
            units[i] = i % many;
        }
        String named = text + " by " + many + " in " + latency;
        Checks.dueOfOperations(named, x, 2, begins);
        Checks.dueOfOperations(named, x, 4, units);
        Checks.due(named + ": told", x.told(3 + kind), many);
        Checks.due(named + ": cycles", x.block(0, 0), begins[4] + latency);
    }

    /** "as long as a unit of its kind is free". */
    private static void asLongAsAUnitIsFree() {
        for (int many = 1; many <= 4; many++) {
            dueFive("a=h+h;b=h-h;c=h<h;d=h=h;e=h+1;", 0, many, 1);
            for (int latency = 1; latency <= 4; latency++) {
                dueFive("a=h*h;b=h*h;c=h*h;d=h*h;e=h*h;", 1, many, latency);
                dueFive("a=m[h];b=m[h];c=m[h];d=m[h];e=m[h];", 2, many, latency);
            }
        }
    }

    /** The same, "of its kind". */
    private static void unitsOfOtherKindsDontCount() {
        String text = "a=h+h;b=h*h;c=m[h];d=h;e=h+1;f=h*h;g=m[1];";
        CycleSynthesis x = Checks.made(text);
        Checks.dueOfOperations(text, x, 2, 0, 0, 0, 0, 1, 1, 1);
        Checks.dueOfOperations(text, x, 4, 0, 0, 0, 0, 0, 0, 0);
        x.units(1, 4, 1);
        Checks.dueOfOperations(text, x, 2, 0, 0, 0, 0, 1, 0, 1);
        x.units(2, 4, 1);
        Checks.dueOfOperations(text, x, 2, 0, 0, 0, 0, 1, 0, 0);
        x.units(0, 4, 1);
        Checks.dueOfOperations(text, x, 2, 0, 0, 0, 0, 0, 0, 0);
    }

    /** "for as long as its latency": free again in the very next cycle, whoever is in the block. */
    private static void forAsLongAsItsLatency() {
        for (int latency = 1; latency <= 4; latency++) {
            CycleSynthesis x = Checks.made("a=h*h;b=h*h;", 1, 1, latency, 1, 1);
            Checks.dueOfOperations("one unit", x, 2, 0, latency);
            Checks.dueOfOperations("one unit", x, 4, 0, 0);
            // The second block's units are all free, whenever the first one's ended.
            x = Checks.made("a=h*h;while h{b=h*h;}", 1, 1, latency, 1, 1);
            Checks.dueOfOperations("another block", x, 2, 0, 0);
        }
    }

    /** "Each takes the free unit with the least number". */
    private static void theFreeUnitWithTheLeastNumber() {
        String text = "a=b*c;d=e+f;g=d*d;h=a*a;";
        CycleSynthesis x = Checks.made(text, 1, 2, 2, 1, 1);
        Checks.dueOfOperations(text, x, 2, 0, 0, 1, 2);
        Checks.dueOfOperations("unit 0 free, 1 busy", x, 4, 0, 0, 1, 0);
        x = Checks.made("a=b*c;d=e+f;g=d*d;h=a*a;b=g*g;", 1, 2, 2, 1, 1);
        Checks.dueOfOperations("unit 0 busy, 1 free", x, 2, 0, 0, 1, 2, 3);
        Checks.dueOfOperations("unit 0 busy, 1 free", x, 4, 0, 0, 1, 0, 1);
        x.units(1, 3, 2);
        Checks.dueOfOperations("unit 2 never needed", x, 4, 0, 0, 1, 0, 1);
        Checks.due("told(4)", x.told(4), 2);
        // The higher one takes the lesser unit, though its number is greater.
        String higher = "a=h*h;b=h*1;c=b;";
        x = Checks.made(higher, 1, 2, 1, 1, 1);
        Checks.dueOfOperations(higher, x, 2, 0, 0, 1);
        Checks.dueOfOperations(higher, x, 4, 1, 0, 0);
    }

    /** "(of moves there are always enough)". */
    private static void ofMovesThereAreAlwaysEnough() {
        StringBuilder moves = new StringBuilder();
        for (int many = 1; many <= 8; many++) {
            moves.append((char) ('a' + many - 1)).append("=1;");
            CycleSynthesis x = Checks.made(moves.toString());
            for (int i = 0; i < many; i++) {
                Checks.due("begin of move " + i, x.operation(i, 2), 0);
                Checks.due("unit of move " + i, x.operation(i, 4), i);
            }
            Checks.due("told(6) of " + many, x.told(6), many);
        }
    }

    /** "(moves: of those 0, 1, .. that no move has in that cycle)". */
    private static void movesCountInEachCycle() {
        String text = "a=1;b=2;c=a;d=b;e=3;";
        CycleSynthesis x = Checks.made(text);
        Checks.dueOfOperations(text, x, 2, 0, 0, 1, 1, 0);
        Checks.dueOfOperations(text, x, 4, 0, 1, 0, 1, 2);
        Checks.due("told(6)", x.told(6), 3);
        String row = "a=1;a=2;a=3;";
        Checks.dueOfOperations(row, Checks.made(row), 4, 0, 0, 0);
        String higher = "c=3;a=1;b=a;";
        Checks.dueOfOperations(higher, Checks.made(higher), 4, 1, 0, 0);
        String blocks = "a=1;b=2;while a{c=1;}";
        Checks.dueOfOperations(blocks, Checks.made(blocks), 4, 0, 1, 0);
    }

    /** "The block has as many cycles as there are up to the last end". */
    private static void upToTheLastEnd() {
        for (int latency = 1; latency <= 4; latency++) {
            Checks.dueOfBlocks("alone", Checks.made("a=b*c;", 1, 1, latency, 1, 1), 0, latency);
            Checks.dueOfBlocks("another last", Checks.made("a=b*c;d=1;", 1, 1, latency, 1, 1), 0, latency);
            Checks.dueOfBlocks("a row", Checks.made("a=b*c;d=a;", 1, 1, latency, 1, 1), 0, latency + 1);
            Checks.dueOfBlocks("the E", Checks.made("d=1;if b*c{}", 1, 1, latency, 1, 1), 0, latency);
            // It is not the last one to begin that ends last.
            Checks.dueOfBlocks("a move begun later", Checks.made("a=b*c;d=1;e=d;", 1, 1, latency, 1, 1), 0,
                Math.max(latency, 2));
        }
    }

    /** "1 at least." */
    private static void oneCycleAtLeast() {
        Checks.dueOfBlocks("no operation", Checks.made("if a{}"), 0, 1);
        Checks.dueOfBlocks("no operation", Checks.made("while 1{}"), 0, 1);
        Checks.dueOfBlocks("one cycle", Checks.made("a=1;"), 0, 1);
        Checks.dueOfBlocks("two cycles", Checks.made("a=1;a=2;"), 0, 2);
        Checks.dueOfBlocks("no operation, slow units", Checks.made("while 1{}", 1, 1, 4, 1, 4), 0, 1);
        Checks.dueOfBlocks("behind a long one", Checks.made("a=b*c*d;while a{}"), 0, 2, 1);
    }

    private static void dueTold(String text, int... want) {
        CycleSynthesis x = Checks.made(text);
        for (int what = 0; what < want.length; what++) {
            Checks.due(text + ": told(" + what + ")", x.told(what), want[what]);
        }
    }

    /** "blocks ..., cycles ..., registers ..., units ... that are used: of these the greatest number, and 1." */
    private static void theGreatestNumberAnd1() {
        dueTold("", 0, 0, 0, 0, 0, 0, 0);
        dueTold("if a{}", 1, 1, 0, 0, 0, 0, 0);
        dueTold("a=b+c;", 1, 1, 0, 1, 0, 0, 0);
        dueTold("a=b*c;", 1, 1, 0, 0, 1, 0, 0);
        dueTold("a=m[b];", 1, 1, 0, 0, 0, 1, 0);
        dueTold("m[a]=b;", 1, 1, 0, 0, 0, 1, 0);
        dueTold("a=b;", 1, 1, 0, 0, 0, 0, 1);
        dueTold("a=b;c=d;", 1, 1, 0, 0, 0, 0, 2);
        dueTold("a=b+c;d=e+f;", 1, 2, 0, 1, 0, 0, 0);
        dueTold("a=b+c+d;", 1, 2, 1, 1, 0, 0, 0);
        dueTold("a=b;while c{d=e;f=g;}h=1;", 4, 4, 0, 0, 0, 0, 2);
        CycleSynthesis x = Checks.made("a=b+c;while d{a=b+c;d=e+f;g=h+h;}e=b*c;");
        x.units(0, 4, 1);
        Checks.due("three used of four: told(3)", x.told(3), 3);
        x.units(0, 2, 1);
        Checks.due("two used of two: told(3)", x.told(3), 2);
        Checks.due("one multiplier: told(4)", x.told(4), 1);
        Checks.due("all cycles: told(1)", x.told(1), 5);
    }

    /** "IllegalArgumentException: another what." */
    private static void noOtherTold() {
        CycleSynthesis x = Checks.made("a=b+c*d;");
        for (int what : new int[] {-1, -2, 7, 8, Integer.MIN_VALUE, Integer.MAX_VALUE}) {
            Checks.throwsArgument("told(" + what + ")", () -> x.told(what));
        }
        CycleSynthesis none = new CycleSynthesis();
        Checks.throwsArgument("told(-1) of nothing", () -> none.told(-1));
        Checks.throwsArgument("told(7) of nothing", () -> none.told(7));
        Checks.due("told(0)", x.told(0), 1);
        Checks.due("told(6)", x.told(6), 0);
    }

    /** "IndexOutOfBoundsException: there is no such operation." */
    private static void noOperationBeforeTheFirstOrBehindTheLast() {
        for (int many : new int[] {0, 1, 2, 3, 199, 200}) {
            CycleSynthesis x = Checks.made(many == 0 ? "" : "a=" + "1*".repeat(many) + "1;");
            for (int i : new int[] {-1, -2, many, many + 1, Integer.MIN_VALUE, Integer.MAX_VALUE}) {
                Checks.throwsIndex(many + " operations: operation(" + i + ", 0)", () -> x.operation(i, 0));
            }
            for (int i = 0; i < many; i++) {
                Checks.due(many + " operations: operation(" + i + ", 0)", x.operation(i, 0), 1);
            }
        }
    }

    /** "IllegalArgumentException: another what." */
    private static void noOtherWhat() {
        CycleSynthesis x = Checks.made("a=b+c*d;");
        for (int i = 0; i <= 1; i++) {
            int asked = i;
            for (int what : new int[] {-1, -2, 6, 7, Integer.MIN_VALUE, Integer.MAX_VALUE}) {
                Checks.throwsArgument("operation(" + i + ", " + what + ")", () -> x.operation(asked, what));
            }
        }
        int[] first = {1, 0, 0, 2, 0, 0};
        int[] second = {0, 0, 1, 1, 0, N};
        for (int what = 0; what <= 5; what++) {
            Checks.due("operation(0, " + what + ")", x.operation(0, what), first[what]);
            Checks.due("operation(1, " + what + ")", x.operation(1, what), second[what]);
        }
        Checks.due("its block", Checks.made("while a{b=c;}").operation(0, 1), 1);
    }

    /** "Methods throw what their comments name, the one named first when several would do". */
    private static void theOperationIsNamedFirst() {
        CycleSynthesis x = Checks.made("a=1;");
        for (int i : new int[] {-1, 1, Integer.MIN_VALUE, Integer.MAX_VALUE}) {
            for (int what : new int[] {-1, 6, Integer.MIN_VALUE, Integer.MAX_VALUE}) {
                Checks.throwsIndex("operation(" + i + ", " + what + ")", () -> x.operation(i, what));
            }
        }
        CycleSynthesis none = new CycleSynthesis();
        Checks.throwsIndex("operation(0, 6)", () -> none.operation(0, 6));
        Checks.throwsIndex("operation(0, -1)", () -> none.operation(0, -1));
    }

    private static void refused(int kind, int many, int latency) {
        CycleSynthesis x = Checks.made("a=h+h;b=h+h;c=h*h;d=h*h;e=m[1];f=m[2];");
        x.units(0, 2, 1);
        x.units(1, 2, 2);
        x.units(2, 2, 3);
        String before = Standing.of(x);
        String named = "units(" + kind + ", " + many + ", " + latency + ")";
        Checks.throwsArgument(named, () -> x.units(kind, many, latency));
        Checks.same("all behind " + named, Standing.of(x), before);
    }

    private static void taken(int kind, int many, int latency) {
        String[] texts = {"a=h+h;b=h+h;c=h+h;d=h+h;e=h+h;", "a=h*h;b=h*h;c=h*h;d=h*h;e=h*h;",
            "a=m[1];b=m[1];c=m[1];d=m[1];e=m[1];"};
        CycleSynthesis x = Checks.made(texts[kind]);
        x.units(kind, many, latency);
        Checks.due("units(" + kind + ", " + many + ", " + latency + "): told", x.told(3 + kind), many);
        Checks.due("units(" + kind + ", " + many + ", " + latency + "): height", x.operation(0, 3), latency);
    }

    /** "IllegalArgumentException: there is no such kind". */
    private static void kindsOfUnits() {
        for (int kind : new int[] {Integer.MIN_VALUE, -2, -1, 3, 4, Integer.MAX_VALUE}) {
            refused(kind, 1, 1);
            refused(kind, 4, 4);
        }
        for (int kind = 0; kind <= 2; kind++) {
            taken(kind, 1, 1);
        }
    }

    /** "many is not 1 to 4". */
    private static void manyOfUnits() {
        for (int kind = 0; kind <= 2; kind++) {
            for (int many : new int[] {Integer.MIN_VALUE, -1, 0, 5, 6, Integer.MAX_VALUE}) {
                refused(kind, many, 1);
            }
            for (int many = 1; many <= 4; many++) {
                taken(kind, many, 1);
            }
        }
    }

    /** "or latency not 1 to 4". */
    private static void latenciesOfUnits() {
        for (int kind = 0; kind <= 2; kind++) {
            for (int latency : new int[] {Integer.MIN_VALUE, -1, 0, 5, 6, Integer.MAX_VALUE}) {
                refused(kind, 1, latency);
                refused(kind, 4, latency);
            }
        }
        for (int latency = 1; latency <= 4; latency++) {
            taken(1, 4, latency);
            taken(2, 4, latency);
        }
    }

    /** "or with 0 not 1." */
    private static void addersTakeOneCycle() {
        for (int latency = 2; latency <= 4; latency++) {
            refused(0, 1, latency);
            refused(0, 4, latency);
        }
        taken(0, 1, 1);
        taken(0, 4, 1);
    }

    /** "a call that throws ... changes nothing": the machine stays where it stands. */
    private static void whatUnitsRefuseChangesNothing() {
        CycleSynthesis x = Checks.made("a=a+1;b=a*a;while b{b=b-1;m[b]=a;}");
        Checks.due("run(4)", x.run(4), 5);
        String before = Standing.of(x);
        int[][] wrong = {{3, 2, 2}, {-1, 2, 2}, {0, 5, 1}, {0, 2, 2}, {1, 0, 2}, {1, 2, 5}, {2, 5, 2}, {2, 2, 0}};
        for (int[] row : wrong) {
            Checks.throwsArgument("units", () -> x.units(row[0], row[1], row[2]));
        }
        Checks.same("all behind units that throw", Standing.of(x), before);
        Checks.due("cycles()", x.cycles(), 5);
        Checks.due("compile()", Checks.compile(x, "a=h*h;b=h*h;c=m[1];d=m[2];e=a+b;"), 5);
        Checks.dueOfOperations("units as before", x, 2, 0, 1, 0, 1, 2);
    }

    /** "blocks are laid anew". */
    private static void blocksAreLaidAnew() {
        String text = "a=h*h;b=h*h;if a<b{c=m[a]*m[b];}d=a*b;";
        CycleSynthesis x = Checks.made(text);
        for (int many = 1; many <= 4; many++) {
            for (int latency = 1; latency <= 4; latency++) {
                x.units(1, many, latency);
                x.units(2, many, 5 - latency);
                CycleSynthesis fresh = new CycleSynthesis();
                fresh.units(1, many, latency);
                fresh.units(2, many, 5 - latency);
                Checks.compile(fresh, text);
                Checks.due("told(1)", x.told(1), fresh.told(1));
                for (int i = 0; i < 3; i++) {
                    Checks.due("operation(" + i + ", 2)", x.operation(i, 2), fresh.operation(i, 2));
                    Checks.due("operation(" + i + ", 4)", x.operation(i, 4), fresh.operation(i, 4));
                    Checks.due("operation(" + i + ", 5)", x.operation(i, 5), fresh.operation(i, 5));
                }
            }
        }
        x.units(1, 1, 1);
        x.units(2, 1, 1);
        Checks.same("as at first", Standing.of(x), Standing.of(Checks.made(text)));
    }

    /** "the machine stands at its beginning, no cycles done (variables and cells stay, so with restart())". */
    private static void unitsPutTheMachineToItsBeginning() {
        for (int kind = 0; kind <= 2; kind++) {
            CycleSynthesis x = Checks.made("a=a+1;m[a]=7;while 1{b=b+1;}");
            Checks.due("run(5)", x.run(5), 5);
            Checks.due("at()", x.at(), 2);
            // The same units as before: the call counts, not what it changes.
            x.units(kind, 1, 1);
            Checks.due("at()", x.at(), 0);
            Checks.due("cycles()", x.cycles(), 0);
            Checks.due("get(0)", x.get(0), 1);
            Checks.due("get(1)", x.get(1), 1);
            Checks.due("peek(1)", x.peek(1), 7);
            x.run(5);
            x.restart();
            Checks.due("at()", x.at(), 0);
            Checks.due("cycles()", x.cycles(), 0);
            Checks.due("get(0)", x.get(0), 2);
            Checks.due("peek(2)", x.peek(2), 7);
        }
    }

    /** Units are told once for all programs. */
    private static void unitsStayForOtherPrograms() {
        CycleSynthesis x = new CycleSynthesis();
        x.units(0, 2, 1);
        x.units(1, 3, 2);
        x.units(2, 4, 3);
        for (int turn = 0; turn < 3; turn++) {
            Checks.due("compile()", Checks.compile(x, "a=h*h;b=h*h;c=h*h;d=h*h;"), 4);
            Checks.dueOfOperations("multipliers", x, 2, 0, 0, 0, 2);
            Checks.due("compile()", Checks.compile(x, "a=m[1];b=m[1];c=m[1];d=m[1];e=m[1];"), 5);
            Checks.dueOfOperations("ports", x, 2, 0, 0, 0, 0, 3);
            Checks.due("compile()", Checks.compile(x, "a=h+h;b=h+h;c=h+h;"), 3);
            Checks.dueOfOperations("adders", x, 2, 0, 0, 1);
            Checks.due("compile() of a fault", Checks.compile(x, "a"), N);
            x.restart();
        }
    }

    /** The longest block that there is: 200 operations in a row, of 4 cycles each. */
    private static void the200Longest() {
        CycleSynthesis x = Checks.made("a=a" + "*a".repeat(200) + ";");
        Checks.due("block(0, 0)", x.block(0, 0), 200);
        x.units(1, 1, 4);
        Checks.due("block(0, 0)", x.block(0, 0), 800);
        Checks.due("operation(0, 3)", x.operation(0, 3), 800);
        Checks.due("operation(199, 2)", x.operation(199, 2), 796);
        Checks.due("operation(199, 3)", x.operation(199, 3), 4);
        Checks.due("told(1)", x.told(1), 800);
        Checks.due("run(1)", x.run(1), 800);
        x = Checks.made("a=a" + "*a".repeat(199) + ";", 1, 1, 4, 1, 1);
        Checks.due("block(0, 0)", x.block(0, 0), 796);
    }
}
