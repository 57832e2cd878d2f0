/** Promises 5 to 7: compile, fault and place, over tapes with faults of each number. */
public final class FaultTest {
    private static final int NONE = CycleSynthesis.NONE;
    private static final int STRAY = 1;
    private static final int TOO_GREAT = 2;
    private static final int TOO_MANY = 3;

    public static void main(String[] args) {
        goodTapes();
        strayBytesInStatements();
        strayBytesInExpressions();
        strayWords();
        strayBytesOfBlocks();
        numbersTooGreat();
        bracesTooMany();
        bracketsTooMany();
        operationsTooMany();
        faultsWithinComeFirst();
        theFirstFaultCounts();
        faultsAreOfTheLastCompile();
        aFaultChangesNothing();
        whatAFaultLeftOpenIsForgotten();
        manyCompiles();
        Checks.finish();
    }

    private static void goodTapes() {
        Checks.dueOperations("", 0);
        Checks.dueOperations("\0\1\n \t ", 0);
        Checks.dueOperations("a=1;", 1);
        Checks.dueOperations(" \n a\0 =\t1 ; ", 1);
        Checks.dueOperations("h=((2147483647));", 1);
        Checks.dueOperations("a=00000000000000000000000007;", 1);
        Checks.dueOperations("a=b=c;", 1);
        Checks.dueOperations("a=b<c;", 1);
        Checks.dueOperations("a=(b<c)=(d=e);", 3);
        Checks.dueOperations("m[m[a]]=m[b];", 3);
        Checks.dueOperations("m [ 1 ] = 2 ;", 1);
        Checks.dueOperations("if1{}", 0);
        Checks.dueOperations("if(a){}else{}", 0);
        Checks.dueOperations("if a{}else{}if b{}while c{}", 0);
        Checks.dueOperations("while1{}", 0);
        Checks.dueOperations("while m[1]=1{if a<b{c=1;}else{while 0{}}}", 4);
    }

    private static void strayBytesInStatements() {
        Checks.dueFault(";", STRAY, 0);
        Checks.dueFault("1", STRAY, 0);
        Checks.dueFault("=", STRAY, 0);
        Checks.dueFault("(a)=1;", STRAY, 0);
        Checks.dueFault("a", STRAY, 1);
        Checks.dueFault("a ", STRAY, 2);
        Checks.dueFault("a=", STRAY, 2);
        Checks.dueFault("a=1", STRAY, 3);
        Checks.dueFault("a=1 \n ", STRAY, 6);
        Checks.dueFault("a=1;;", STRAY, 4);
        Checks.dueFault("a=1; ;", STRAY, 5);
        Checks.dueFault("a=1}", STRAY, 3);
        Checks.dueFault("a1=1;", STRAY, 1);
        Checks.dueFault("a b=1;", STRAY, 2);
        Checks.dueFault("a[1]=1;", STRAY, 1);
        Checks.dueFault("a==1;", STRAY, 2);
        Checks.dueFault("i=1;", STRAY, 0);
        Checks.dueFault(" z=1;", STRAY, 1);
        Checks.dueFault("A=1;", STRAY, 0);
        Checks.dueFault("m=1;", STRAY, 1);
        Checks.dueFault("m", STRAY, 1);
        Checks.dueFault("m(1)=1;", STRAY, 1);
        Checks.dueFault("m[1];", STRAY, 4);
        Checks.dueFault("m[1]=;", STRAY, 5);
        Checks.dueFault("m[]=1;", STRAY, 2);
        Checks.dueFault("m[1)=1;", STRAY, 3);
        Checks.dueFault("m[1]=1", STRAY, 6);
        Checks.dueFault("\177", STRAY, 0);
        Checks.dueFault("a=1;\377", STRAY, 4);
        Checks.dueFault("!a=1;", STRAY, 0);
    }

    private static void strayBytesInExpressions() {
        Checks.dueFault("a=;", STRAY, 2);
        Checks.dueFault("a=-1;", STRAY, 2);
        Checks.dueFault("a=+1;", STRAY, 2);
        Checks.dueFault("a=1+;", STRAY, 4);
        Checks.dueFault("a=1+-1;", STRAY, 4);
        Checks.dueFault("a=1*;", STRAY, 4);
        Checks.dueFault("a=1<;", STRAY, 4);
        Checks.dueFault("a=1<2<3;", STRAY, 5);
        Checks.dueFault("a=1<2=3;", STRAY, 5);
        Checks.dueFault("a=1=2<3;", STRAY, 5);
        Checks.dueFault("a=b=c=d;", STRAY, 5);
        Checks.dueFault("a=1>2;", STRAY, 3);
        Checks.dueFault("a=1/2;", STRAY, 3);
        Checks.dueFault("a=(1;", STRAY, 4);
        Checks.dueFault("a=(1", STRAY, 4);
        Checks.dueFault("a=(1];", STRAY, 4);
        Checks.dueFault("a=();", STRAY, 3);
        Checks.dueFault("a=1);", STRAY, 3);
        Checks.dueFault("a=m;", STRAY, 3);
        Checks.dueFault("a=m 1;", STRAY, 4);
        Checks.dueFault("a=m[;", STRAY, 4);
        Checks.dueFault("a=m[1;", STRAY, 5);
        Checks.dueFault("a=m[1);", STRAY, 5);
        Checks.dueFault("a=1 2;", STRAY, 4);
        Checks.dueFault("a=1 99999999999;", STRAY, 4);
        Checks.dueFault("a=1b;", STRAY, 3);
        Checks.dueFault("a=b1;", STRAY, 3);
        Checks.dueFault("a=1(2);", STRAY, 3);
        Checks.dueFault("a=i;", STRAY, 2);
        Checks.dueFault("a=m[1]m[2];", STRAY, 6);
    }

    private static void strayWords() {
        Checks.dueFault("ab=1;", STRAY, 0);
        Checks.dueFault("a=bc;", STRAY, 2);
        Checks.dueFault("az=1;", STRAY, 0);
        Checks.dueFault("za=1;", STRAY, 0);
        Checks.dueFault("a=1+  hh;", STRAY, 6);
        Checks.dueFault("mm[1]=1;", STRAY, 0);
        Checks.dueFault("am[1]=1;", STRAY, 0);
        Checks.dueFault("a=ma[1];", STRAY, 2);
        Checks.dueFault("ifa{}", STRAY, 0);
        Checks.dueFault("i f a{}", STRAY, 0);
        Checks.dueFault("whil a{}", STRAY, 0);
        Checks.dueFault("whilea{}", STRAY, 0);
        Checks.dueFault("a=1while 1{}", STRAY, 3);
        Checks.dueFault("a=1 +while;", STRAY, 5);
        Checks.dueFault("a=if;", STRAY, 2);
        Checks.dueFault("if if{}", STRAY, 3);
        Checks.dueFault("a if{}", STRAY, 2);
        Checks.dueFault("else{}", STRAY, 0);
        Checks.dueFault("a=1;else{}", STRAY, 4);
        Checks.dueFault("if 1{else{}}", STRAY, 5);
        Checks.dueFault("while 1{}else{}", STRAY, 9);
        Checks.dueFault("if 1{}a=1;else{}", STRAY, 10);
        Checks.dueFault("if 1{}else{}else{}", STRAY, 12);
        Checks.dueFault("if 1{}els{}", STRAY, 6);
        Checks.dueFault("if 1{}elses{}", STRAY, 6);
        Checks.dueFault("if 1{} el se{}", STRAY, 7);
        Checks.dueFault("if 1{}elseif 1{}", STRAY, 6);
        Checks.dueFault("if 1{}else if 1{}", STRAY, 11);
        Checks.dueFault("if 1{}else a=1;", STRAY, 11);
    }

    private static void strayBytesOfBlocks() {
        Checks.dueFault("}", STRAY, 0);
        Checks.dueFault("{}", STRAY, 0);
        Checks.dueFault("{a=1;}", STRAY, 0);
        Checks.dueFault("if{}", STRAY, 2);
        Checks.dueFault("if ;", STRAY, 3);
        Checks.dueFault("if", STRAY, 2);
        Checks.dueFault("if 1", STRAY, 4);
        Checks.dueFault("if 1}", STRAY, 4);
        Checks.dueFault("if 1 a=1;", STRAY, 5);
        Checks.dueFault("if a=1;{}", STRAY, 6);
        Checks.dueFault("if 1{", STRAY, 5);
        Checks.dueFault("if 1{a=1}", STRAY, 8);
        Checks.dueFault("if 1{;}", STRAY, 5);
        Checks.dueFault("if 1{}}", STRAY, 6);
        Checks.dueFault("if 1{};", STRAY, 6);
        Checks.dueFault("if 1{}else", STRAY, 10);
        Checks.dueFault("if 1{}else{ ", STRAY, 12);
        Checks.dueFault("while{}", STRAY, 5);
        Checks.dueFault("while 1{a=1;", STRAY, 12);
        Checks.dueFault("while 1{}}", STRAY, 9);
        Checks.dueFault("while 1{if 1{}", STRAY, 14);
        Checks.dueFault("while 1{]", STRAY, 8);
    }

    private static void numbersTooGreat() {
        Checks.dueFault("a=2147483648;", TOO_GREAT, 2);
        Checks.dueFault("a= 0002147483648 ;", TOO_GREAT, 3);
        Checks.dueFault("a=1+99999999999999999999999999;", TOO_GREAT, 4);
        Checks.dueFault("a=18446744073709551617;", TOO_GREAT, 2);
        Checks.dueFault("m[4294967296]=1;", TOO_GREAT, 2);
        Checks.dueFault("if 3000000000{}", TOO_GREAT, 3);
        Checks.dueFault("a=2147483648", TOO_GREAT, 2);
        Checks.dueOperations("a=2147483647+2147483647;", 1);
    }

    private static void bracesTooMany() {
        String ten = "if 1{".repeat(10);
        Checks.dueOperations(ten + "a=1;" + "}".repeat(10), 1);
        Checks.dueFault(ten + "if 1{", TOO_MANY, 54);
        Checks.dueFault(ten + "if 1 {" + "}".repeat(11), TOO_MANY, 55);
        Checks.dueFault(ten + "if 1", STRAY, 54);
        Checks.dueFault(ten + "{", STRAY, 50);
        Checks.dueFault(ten + "}else{if 1{", TOO_MANY, 60);
        Checks.dueFault("while 1{".repeat(11), TOO_MANY, 87);
        Checks.dueOperations(ten + "}".repeat(10) + ten + "}".repeat(10) + "else{}", 0);
        String nine = "while 1{".repeat(9);
        Checks.dueOperations(nine + "if 1{}else{}while 1{}" + "}".repeat(9), 0);
    }

    private static void bracketsTooMany() {
        String twenty = "(".repeat(20);
        Checks.dueOperations("a=" + twenty + "1" + ")".repeat(20) + ";", 1);
        Checks.dueFault("a=" + twenty + "(1" + ")".repeat(21) + ";", TOO_MANY, 22);
        Checks.dueFault("a=" + twenty + " (", TOO_MANY, 23);
        Checks.dueFault("a=" + twenty + "1(", STRAY, 23);
        Checks.dueFault("a=" + twenty + "m[", TOO_MANY, 23);
        Checks.dueFault("a=" + "m[".repeat(21), TOO_MANY, 43);
        Checks.dueOperations("a=" + "m[".repeat(20) + "1" + "]".repeat(20) + ";", 20);
        Checks.dueFault("m[" + "m[(".repeat(10) + "1", TOO_MANY, 31);
        Checks.dueFault("if " + "(".repeat(21), TOO_MANY, 23);
        Checks.dueOperations("a=" + (twenty + "1" + ")".repeat(20) + "+").repeat(3) + "1;", 3);
        Checks.dueOperations("m[1]=" + twenty + "1" + ")".repeat(20) + ";", 1);
        String deep = "if 1{".repeat(10) + "a=" + twenty;
        Checks.dueOperations(deep + "1" + ")".repeat(20) + ";" + "}".repeat(10), 1);
        Checks.dueFault(deep + "(", TOO_MANY, 72);
        Checks.dueFault(deep + "m{", STRAY, 73);
    }

    /** 200 operations, and then one too many of each sort. */
    private static void operationsTooMany() {
        String full = "a=" + "1+".repeat(200) + "1;";
        int end = full.length();
        Checks.dueOperations(full, 200);
        Checks.dueFault("a=" + "1+".repeat(201) + "1;", TOO_MANY, end - 1);
        Checks.dueFault(full + " b = 1 ;", TOO_MANY, end + 1);
        Checks.dueFault(full + "b=1+1;", TOO_MANY, end + 3);
        Checks.dueFault(full + "b=1<1;", TOO_MANY, end + 3);
        Checks.dueFault(full + "b=1*1;", TOO_MANY, end + 3);
        Checks.dueFault(full + "b= m[1];", TOO_MANY, end + 3);
        Checks.dueFault(full + "m[1]=1;", TOO_MANY, end);
        Checks.dueFault(full + "m[1*1]=1;", TOO_MANY, end + 3);
        Checks.dueFault(full + "if 1-1{}", TOO_MANY, end + 4);
        Checks.dueFault(full + "if 1{b=1;}", TOO_MANY, end + 5);
        Checks.dueOperations(full + "if a{}while b{}", 200);
        String less = "a=" + "1+".repeat(199) + "1;";
        Checks.dueOperations(less + "b=1;", 200);
        Checks.dueOperations(less + "m[1]=1;", 200);
        Checks.dueFault(less + "m[1+1]=1;", TOO_MANY, less.length());
        Checks.dueFault(less + "b=m[1]+1;", TOO_MANY, less.length() + 6);
        Checks.dueFault(less + "b=1*1<1;", TOO_MANY, less.length() + 5);
    }

    /** A sign is looked at behind its right side, a read behind its ], the others behind their ;. */
    private static void faultsWithinComeFirst() {
        String full = "a=" + "1+".repeat(200) + "1;";
        int end = full.length();
        Checks.dueFault(full + "b=1", STRAY, end + 3);
        Checks.dueFault(full + "b=3000000000;", TOO_GREAT, end + 2);
        Checks.dueFault(full + "b=1+;", STRAY, end + 4);
        Checks.dueFault(full + "b=1+3000000000;", TOO_GREAT, end + 4);
        Checks.dueFault(full + "b=1+1", TOO_MANY, end + 3);
        Checks.dueFault(full + "b=1+1?", TOO_MANY, end + 3);
        Checks.dueFault(full + "b=1+1 3000000000;", TOO_MANY, end + 3);
        Checks.dueFault(full + "b=1+(1*1);", TOO_MANY, end + 6);
        Checks.dueFault(full + "b=1+1*1;", TOO_MANY, end + 5);
        Checks.dueFault(full + "b=1+(1", STRAY, end + 6);
        Checks.dueFault(full + "b=1+1+1;", TOO_MANY, end + 3);
        Checks.dueFault(full + "b=1<1+;", STRAY, end + 6);
        Checks.dueFault(full + "b=1<1+1;", TOO_MANY, end + 5);
        Checks.dueFault(full + "b=1=1", TOO_MANY, end + 3);
        Checks.dueFault(full + "b=m[1", STRAY, end + 5);
        Checks.dueFault(full + "b=m[1]", TOO_MANY, end + 2);
        Checks.dueFault(full + "b=m[m[1]];", TOO_MANY, end + 4);
        Checks.dueFault(full + "b=m[3000000000];", TOO_GREAT, end + 4);
        Checks.dueFault(full + "m[1]=1", STRAY, end + 6);
        Checks.dueFault(full + "m[1]1", STRAY, end + 4);
        Checks.dueFault(full + "m[1]=m[2];", TOO_MANY, end + 5);
        Checks.dueFault(full + "b=" + "(".repeat(21), TOO_MANY, end + 22);
    }

    private static void theFirstFaultCounts() {
        Checks.dueFault("a=3000000000;b=;", TOO_GREAT, 2);
        Checks.dueFault("a=;b=3000000000;", STRAY, 2);
        Checks.dueFault("a=1;b=c;d=e+;f=3000000000;", STRAY, 12);
        Checks.dueFault("if 1{".repeat(11) + ";", TOO_MANY, 54);
        Checks.dueFault(";" + "if 1{".repeat(11), STRAY, 0);
    }

    private static void faultsAreOfTheLastCompile() {
        CycleSynthesis x = new CycleSynthesis();
        Checks.due("compile()", Checks.compile(x, "a=3000000000;"), NONE);
        Checks.due("fault()", x.fault(), TOO_GREAT);
        Checks.due("place()", x.place(), 2);
        Checks.due("compile() again", x.compile(), NONE);
        Checks.due("fault()", x.fault(), TOO_GREAT);
        x.wipe();
        x.units(1, 1, 1);
        x.restart();
        Checks.due("fault() stays", x.fault(), TOO_GREAT);
        Checks.due("place() stays", x.place(), 2);
        Checks.due("compile()", Checks.compile(x, "a=1"), NONE);
        Checks.due("fault()", x.fault(), STRAY);
        Checks.due("place()", x.place(), 3);
        x.feed(1, ';');
        Checks.due("fault() before compile()", x.fault(), STRAY);
        Checks.due("compile()", x.compile(), 1);
        Checks.due("fault()", x.fault(), 0);
        Checks.due("place()", x.place(), NONE);
        x.feed(1, ';');
        Checks.due("fault() before compile()", x.fault(), 0);
        Checks.due("compile()", x.compile(), NONE);
        Checks.due("place()", x.place(), 4);
    }

    private static void aFaultChangesNothing() {
        CycleSynthesis x = Checks.made("a=a+1;if a<3{b=a*2;}while a{a=a-1;m[a]=b;}");
        x.units(2, 2, 3);
        Checks.due("run(4)", x.run(4), 4);
        int at = x.at();
        Checks.due("compile()", Checks.compile(x, "c=1;d=2;while c{c=c-1;} if 1{"), NONE);
        Checks.due("at()", x.at(), at);
        Checks.due("cycles()", x.cycles(), 4);
        Checks.due("a", x.get(0), 1);
        Checks.due("told(0)", x.told(0), 4);
        Checks.dueOfOperations("kept", x, 0, 0, 0, 1, 0, 2);
        Checks.dueOfBlocks("kept", x, 3, 1, 2, 3, 2);
        Checks.dueOfBlocks("kept", x, 4, 2, NONE, NONE, NONE);
        Checks.dueOfBlocks("kept", x, 0, 2, 1, 1, 4);
        Checks.due("compile()", Checks.compile(x, ""), 0);
        Checks.due("told(0)", x.told(0), 0);
        Checks.due("at()", x.at(), NONE);
        Checks.due("cycles()", x.cycles(), 0);
        Checks.due("a", x.get(0), 1);
    }

    private static void whatAFaultLeftOpenIsForgotten() {
        CycleSynthesis x = new CycleSynthesis();
        String braces = "if 1{".repeat(10);
        Checks.due("compile()", Checks.compile(x, braces + "a=" + "(".repeat(20) + ";"), NONE);
        Checks.due("place()", x.place(), 72);
        String both = braces + "a=" + "(".repeat(20) + "1" + ")".repeat(20) + ";" + "}".repeat(10);
        Checks.due("compile()", Checks.compile(x, both), 1);
        Checks.due("fault()", x.fault(), 0);
        Checks.due("told(0)", x.told(0), 11);
    }

    /** Whatever a program needs rows for, it must not be less for those that come later. */
    private static void manyCompiles() {
        CycleSynthesis x = new CycleSynthesis();
        Checks.compile(x, "if1{}".repeat(137) + "a=1+1*1;");
        for (int i = 0; i < 300; i++) {
            Checks.due("compile()", x.compile(), 2);
        }
        Checks.due("told(0)", x.told(0), 138);
        x.feed(1, '}');
        for (int i = 0; i < 50; i++) {
            Checks.due("compile()", x.compile(), NONE);
        }
        Checks.due("told(0)", x.told(0), 138);
    }
}
