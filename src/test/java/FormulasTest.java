/** Promises 8 to 10: append, compile, error. */
public final class FormulasTest {
    public static void main(String[] args) {
        append();
        fullBuffer();
        values();
        compileChanges();
        wrongSigns();
        earlyEnds();
        cellsBeyondWidth();
        divisions();
        error();
        longFormulas();
        Check.end();
    }

    private static void append() {
        PreimageAnalyzer x = new PreimageAnalyzer();
        Check.due("append(0)", 0, x.append(0));
        Check.due("append of a", 1, x.append('a'));
        Check.due("append of + behind zeros", 2, x.append('+' << 24));
        Check.due("append of b between zeros", 3, x.append('b' << 8));
        Check.due("append of =1 with a gap", 5, x.append('=' << 16 | '1'));
        Check.due("compile() of a+b=1", 4, x.compile());
        Check.due("number()", 60, x.number());
        Check.due("append of four", 4, x.append(Check.pack("!a=b")));
        Check.due("append of the least and the greatest", 6, x.append('!' << 8 | '~'));
        int[] wrong = {32, 127, 128, 255, 1, -1, 0x20000000, 0x7f000000, 0x80000000, 0x61620a63, 0x61ff6161, 0x00001f00,
            0x61616120, Integer.MIN_VALUE, Integer.MAX_VALUE};
        for (int packed : wrong) {
            Check.refuses(x, "append(" + packed + ")", Check.ARGUMENT, () -> x.append(packed));
        }
    }

    private static void fullBuffer() {
        PreimageAnalyzer x = new PreimageAnalyzer();
        for (int i = 1; i <= 9; i++) {
            Check.due("append", 4 * i, x.append(Check.pack("a+b+")));
        }
        Check.due("append to 38", 38, x.append(Check.pack("a+")));
        Check.refuses(x, "append to 41", Check.STATE, () -> x.append(Check.pack("a+b")));
        Check.refuses(x, "append to 42 with a wrong byte", Check.ARGUMENT, () -> x.append(Check.pack("a+b ")));
        Check.due("append to 40", 40, x.append(Check.pack("b+") << 16));
        Check.due("append of nothing to 40", 40, x.append(0));
        Check.refuses(x, "append to 41", Check.STATE, () -> x.append('a'));
        Check.fails("compile() of 40 signs without end", Check.ARGUMENT, x::compile);
        Check.due("its place", 40, x.error(1));
        Check.due("append to the empty buffer", 1, x.append('a'));
    }

    private static void values() {
        FormulaCheck.gives(2, 2, "a", "0011");
        FormulaCheck.gives(2, 2, "b", "0101");
        FormulaCheck.gives(2, 3, "c", "01010101");
        FormulaCheck.gives(2, 4, "d", "0101010101010101");
        FormulaCheck.gives(2, 4, "c", "0011001100110011");
        FormulaCheck.gives(3, 2, "a", "000111222");
        FormulaCheck.gives(3, 2, "a+b", "012120201");
        FormulaCheck.gives(3, 2, "a-b", "021102210");
        FormulaCheck.gives(3, 2, "0-a-b", "021210102");
        FormulaCheck.gives(3, 2, "a*b", "000012021");
        FormulaCheck.gives(3, 2, "a/2+b", "012012120");
        FormulaCheck.gives(3, 2, "a%2+b", "012120012");
        FormulaCheck.gives(3, 2, "a=b", "100010001");
        FormulaCheck.gives(3, 2, "a<b", "011001000");
        FormulaCheck.gives(3, 2, "!a+b", "120012012");
        FormulaCheck.gives(3, 2, "!!a", "000111111");
        FormulaCheck.gives(3, 2, "!(a=b)", "011101110");
        FormulaCheck.gives(3, 2, "min(a,b)", "000011012");
        FormulaCheck.gives(3, 2, "max(a,b)", "012112222");
        FormulaCheck.gives(3, 2, "min(a,b)+max(a,b)", "012120201");
        FormulaCheck.gives(3, 2, "9-a-b", "021210102");
        FormulaCheck.gives(3, 2, "9-(a-b)", "012201120");
        FormulaCheck.gives(3, 2, "8/4/2+0*a", "111111111");
        FormulaCheck.gives(3, 2, "8/(4/2)", "111111111");
        FormulaCheck.gives(3, 2, "2+2*2", "000000000");
        FormulaCheck.gives(3, 2, "(2+2)*2", "222222222");
        FormulaCheck.gives(3, 2, "7%4*2", "000000000");
        FormulaCheck.gives(3, 2, "2*7%4", "222222222");
        FormulaCheck.gives(3, 2, "1+1=2", "111111111");
        FormulaCheck.gives(3, 2, "(0<1)=1", "111111111");
        FormulaCheck.gives(3, 2, "1<1+1", "111111111");
        FormulaCheck.gives(3, 2, "(0-7)/2", "000000000");
        FormulaCheck.gives(3, 2, "(0-7)%4", "000000000");
        FormulaCheck.gives(3, 2, "(0-8)/3", "111111111");
        FormulaCheck.gives(3, 2, "(0-8)%3", "111111111");
        FormulaCheck.gives(3, 2, "max(0-1,0-2)", "222222222");
        FormulaCheck.gives(3, 2, "min(a=b,b<a)+1", "111111111");
        FormulaCheck.gives(3, 2, "max(min(a,1),min(b,1))", "011111111");
        FormulaCheck.gives(3, 2, "!a*!b+!0", "211111111");
        FormulaCheck.gives(2, 2, "!a=b", "0110");
        FormulaCheck.gives(2, 2, "a+a+a+b", "0110");
        // 9^10 = 3486784401 is -808182895 as an int, and 2 * 8^10 is the least int.
        FormulaCheck.gives(3, 2, "9*9*9*9*9*9*9*9*9*9", "222222222");
        FormulaCheck.gives(2, 2, "0<9*9*9*9*9*9*9*9*9*9", "0000");
        FormulaCheck.gives(3, 2, "8*8*8*8*8*8*8*8*8*8*2", "111111111");
        FormulaCheck.gives(3, 2, "8*8*8*8*8*8*8*8*8*8*2/(0-1)", "111111111");
        FormulaCheck.gives(3, 2, "8*8*8*8*8*8*8*8*8*8*2%(0-1)", "000000000");
    }

    private static void compileChanges() {
        PreimageAnalyzer x = Check.numbered(2, 3, 110);
        x.setWord(0, 4, 7);
        Check.write(x, "a+c");
        Check.due("compile() behind 110", 3, x.compile());
        Check.due("number()", 90, x.number());
        Check.due("the register stays", 7, x.wordIndex(0));
        Check.due("the buffer is empty", 0, x.append(0));
        Check.write(x, "c-a");
        Check.due("compile() of the same rule", 0, x.compile());
    }

    private static void wrongSigns() {
        wrongAt(0, "e", "A", ")", ",", "+", "=a", "*a", "x", "n", "i");
        wrongAt(1, "ab", "a1", "12", "a!", "a(b)", "a)", "a,b", "()", "mn", "mmin", "a#b", "!*", "a&b", "a>b");
        wrongAt(2, "a+*b", "(a,b)", "mix(a,b)", "man(a,b)", "a+~", "a+-b", "a--b");
        wrongAt(3, "(a))", "mina", "max!", "a=b=a", "a<b<a", "a=b<a", "a<b=a", "(a)d");
        wrongAt(4, "min()", "(a=b=a)");
        wrongAt(5, "min(a)", "min(a`b", "a=b+a=b");
        wrongAt(6, "min(a,)");
        wrongAt(7, "min(a,b,c)", "min(a=b=a,b)", "a=b+a*b<1");
        wrongAt(8, "min(a,b)c");
        FormulaCheck.faults(2, 4, "ad", 1, 1);
        FormulaCheck.faults(2, 2, "ad", 1, 1);
        FormulaCheck.faults(2, 2, "md", 1, 1);
        FormulaCheck.faults(2, 2, "min(a,b)<a=d", 1, 10);
    }

    /** Formulas for three cells whose sign at the place is wrong. */
    private static void wrongAt(int place, String... texts) {
        for (String text : texts) {
            FormulaCheck.faults(2, 3, text, 1, place);
        }
    }

    private static void earlyEnds() {
        String[] texts = {"", "a+", "a=", "(", "(a", "!", "m", "mi", "ma", "min", "max", "min(", "min(a", "min(a,",
            "min(a,b", "((a)", "a*(b+c", "!(a", "min(a,(b)", "a<b+"};
        for (String text : texts) {
            FormulaCheck.faults(2, 3, text, 2, text.length());
        }
    }

    private static void cellsBeyondWidth() {
        FormulaCheck.faults(2, 2, "c", 3, 0);
        FormulaCheck.faults(2, 2, "d", 3, 0);
        FormulaCheck.faults(2, 3, "a+d", 3, 2);
        FormulaCheck.faults(3, 2, "!c", 3, 1);
        FormulaCheck.faults(3, 3, "min(a,d", 3, 6);
        FormulaCheck.faults(2, 2, "c)", 3, 0);
        FormulaCheck.faults(2, 2, "(c+e", 3, 1);
        FormulaCheck.faults(2, 2, "a)c", 1, 1);
        FormulaCheck.faults(2, 2, "c/0", 3, 0);
        FormulaCheck.faults(3, 3, "a=b=d", 1, 3);
    }

    private static void divisions() {
        FormulaCheck.faults(2, 2, "1/0", 4, 0);
        FormulaCheck.faults(2, 2, "1%0", 5, 0);
        FormulaCheck.faults(2, 2, "a/b", 4, 0);
        FormulaCheck.faults(2, 2, "a/(1-b)", 4, 1);
        FormulaCheck.faults(2, 2, "a%(1-a)", 5, 2);
        FormulaCheck.faults(3, 3, "1/(2-a+2-b+2-c)", 4, 26);
        FormulaCheck.faults(3, 2, "1%(2-a)", 5, 6);
        FormulaCheck.faults(2, 2, "1/a+1%b", 4, 0);
        FormulaCheck.faults(2, 2, "1%a+1/b", 5, 0);
        FormulaCheck.faults(2, 2, "1/(1-a)+1%(1-b)", 5, 1);
        FormulaCheck.faults(2, 2, "(1/0)%0", 4, 0);
        FormulaCheck.faults(2, 2, "1/(1%0)", 5, 0);
        FormulaCheck.faults(2, 2, "0*(1%0)+1/0", 5, 0);
        FormulaCheck.faults(2, 2, "min(1%0,1/0)", 5, 0);
        FormulaCheck.faults(2, 2, "max(1/0,1%0)", 4, 0);
        FormulaCheck.faults(2, 2, "1=1/0", 4, 0);
        FormulaCheck.faults(2, 2, "!(1/(1-a*b))", 4, 3);
        FormulaCheck.faults(2, 2, "0*(1/0)", 4, 0);
        FormulaCheck.faults(2, 2, "1/0)", 1, 3);
        FormulaCheck.faults(2, 2, "1/0+", 2, 4);
        FormulaCheck.faults(2, 2, "1/0/c", 3, 4);
    }

    private static void error() {
        PreimageAnalyzer x = new PreimageAnalyzer();
        Check.due("error(0) before compile", 0, x.error(0));
        Check.due("error(1) before compile", -1, x.error(1));
        Check.write(x, "a+d");
        Check.due("error(0) before compile", 0, x.error(0));
        Check.fails("compile()", Check.ARGUMENT, x::compile);
        x.save();
        x.setNumber(3);
        x.restore();
        x.mirror();
        x.append('a');
        Check.due("error(0) stays", 3, x.error(0));
        Check.due("error(1) stays", 2, x.error(1));
        for (int what : new int[] {-1, 2, Integer.MIN_VALUE, Integer.MAX_VALUE}) {
            Check.refuses(x, "error(" + what + ")", Check.INDEX, () -> x.error(what));
        }
        x.compile();
        Check.due("error(0) of a right formula", 0, x.error(0));
        Check.due("error(1) of a right formula", -1, x.error(1));
    }

    private static void longFormulas() {
        FormulaCheck.gives(2, 2, "!".repeat(39) + "a", "1100");
        FormulaCheck.gives(2, 2, "(".repeat(19) + "a" + ")".repeat(19), "0011");
        FormulaCheck.gives(2, 2, "a+".repeat(19) + "b", "0110");
        FormulaCheck.gives(2, 2, "a+(b+(".repeat(4) + "a" + "))".repeat(4), "0011");
        FormulaCheck.gives(2, 2, "min(min(min(min(min(a,b),a),b),a),b)", "0001");
        FormulaCheck.gives(2, 2, "max(a,max(a,max(a,max(a,max(a,b)))))", "0111");
        FormulaCheck.faults(2, 2, "(".repeat(40), 2, 40);
        FormulaCheck.faults(2, 2, "!".repeat(40), 2, 40);
        FormulaCheck.faults(2, 2, "min(".repeat(10), 2, 40);
        FormulaCheck.faults(2, 2, "max(a,".repeat(6) + "maxb", 1, 39);
        FormulaCheck.gives(2, 2, "0-9*9*9*9*9*9*9*9*9*9*9*9*9*9*9*9*9*9/9",
                Math.floorMod(0 - power9(18) / 9, 2) == 0 ? "0000" : "1111");
    }

    private static int power9(int exponent) {
        int value = 1;
        for (int i = 0; i < exponent; i++) {
            value *= 9;
        }
        return value;
    }
}
