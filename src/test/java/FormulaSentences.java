/** Tests of the sentences of the document's paragraph "Formulas". */
final class FormulaSentences {
    private static final String FORMULAS = "Description: Formulas";
    /** 2^31, which is the least int. */
    private static final String LEAST_INT = "8*8*8*8*8*8*8*8*8*8*2";

    private FormulaSentences() {
    }

    /** The formula is read without error. */
    private static void fits(int states, int width, String text) {
        PreimageAnalyzer x = Check.sized(states, width);
        Check.write(x, text);
        Check.due("compile() of " + text, true, !Check.answer(x::compile).contains("throws"));
        Check.due("kind of " + text, 0, x.error(0));
        Check.due("place of " + text, -1, x.error(1));
    }

    private static void fortyCharacters() {
        Sentences.about(FORMULAS, "A buffer holds at most 40 characters.");
        PreimageAnalyzer x = new PreimageAnalyzer();
        for (int i = 1; i <= 40; i++) {
            Check.due("append as character " + i, i, x.append(i % 2 == 0 ? 'b' : '!'));
        }
        Check.refuses(x, "append as character 41", Check.STATE, () -> x.append('a'));
        FormulaCheck.gives(2, 2, "!".repeat(39) + "a", "1100");
        FormulaCheck.gives(2, 2, "a+".repeat(18) + "a+!b", "1001");
    }

    private static void repetitions() {
        Sentences.about(FORMULAS, "where braces mean zero or more repetitions");
        FormulaCheck.gives(3, 2, "a", "000111222");
        FormulaCheck.gives(3, 2, "a+b", "012120201");
        FormulaCheck.gives(3, 2, "a+b-a+b-a", "021210102");
        FormulaCheck.gives(3, 2, "a+".repeat(19) + "b", "012120201");
        FormulaCheck.gives(3, 2, "2*".repeat(19) + "a", "000222111");
    }

    private static void brackets() {
        Sentences.about(FORMULAS, "brackets mean zero or one");
        FormulaCheck.gives(3, 2, "a", "000111222");
        FormulaCheck.gives(3, 2, "a=b", "100010001");
        FormulaCheck.gives(3, 2, "a<b", "011001000");
        FormulaCheck.faults(3, 2, "a=b=a", 1, 3);
        FormulaCheck.faults(3, 2, "a<b<a", 1, 3);
    }

    private static void literally() {
        Sentences.about(FORMULAS, "characters in quotes are meant literally:");
        for (int sign = 33; sign <= 126; sign++) {
            String text = String.valueOf((char) sign);
            if ("0123456789abcd".contains(text)) {
                fits(2, 4, text);
            } else if ("!(m".contains(text)) {
                FormulaCheck.faults(2, 4, text, 2, 1);
            } else {
                FormulaCheck.faults(2, 4, text, 1, 0);
            }
            if ("+-*/%=<".contains(text)) {
                fits(2, 4, "a" + text + "1");
            } else {
                FormulaCheck.faults(2, 4, "a" + text + "1", 1, 1);
            }
        }
    }

    private static void formulasWithinFormulas() {
        Sentences.about(FORMULAS, "formula = sum [ ( \"=\" | \"<\" ) sum ]");
        FormulaCheck.holds("1+1=2");
        FormulaCheck.holds("2=1+1");
        FormulaCheck.holds("1<1+1");
        FormulaCheck.holds("2*2=9-5");
        FormulaCheck.holds("(1=2)=(2=1)");
        FormulaCheck.holds("!(1=2)");
        FormulaCheck.holds("min(1=1,1<2)");
        FormulaCheck.holds("(((0<1)<2)<3)<4");
    }

    private static void productsBeforeSums() {
        Sentences.about(FORMULAS, "sum = product { ( \"+\" | \"-\" ) product } "
                + "product = factor { ( \"*\" | \"/\" | \"%\" ) factor }");
        FormulaCheck.holds("1+2*3=7");
        FormulaCheck.holds("9-8/4=7");
        FormulaCheck.holds("9-8%5=6");
        FormulaCheck.holds("2*3+1=7");
        FormulaCheck.faults(3, 2, "-a", 1, 0);
        FormulaCheck.faults(3, 2, "a--b", 1, 2);
        FormulaCheck.faults(3, 2, "a*-b", 1, 2);
        FormulaCheck.faults(3, 2, "+a", 1, 0);
    }

    private static void factors() {
        Sentences.about(FORMULAS, "factor = digit | cell | \"!\" factor | \"(\" formula \")\" | "
                + "( \"min\" | \"max\" ) \"(\" formula \",\" formula \")\"");
        FormulaCheck.holds("0=0*9");
        FormulaCheck.holds("9=8+1");
        FormulaCheck.faults(3, 2, "10", 1, 1);
        FormulaCheck.faults(3, 2, "00", 1, 1);
        FormulaCheck.faults(3, 2, "a1", 1, 1);
        FormulaCheck.holds("!0+2=3");
        FormulaCheck.holds("!0*2=2");
        FormulaCheck.holds("!!!0=1");
        FormulaCheck.faults(3, 2, "!-1", 1, 1);
        FormulaCheck.faults(3, 2, "()", 1, 1);
        FormulaCheck.faults(3, 2, "(a,b)", 1, 2);
        FormulaCheck.holds("min(1,2)=1");
        FormulaCheck.holds("max(1,2)=2");
        FormulaCheck.faults(3, 2, "min(a)", 1, 5);
        FormulaCheck.faults(3, 2, "max(a)", 1, 5);
        FormulaCheck.faults(3, 2, "min()", 1, 4);
        FormulaCheck.faults(3, 2, "min(a,)", 1, 6);
        FormulaCheck.faults(3, 2, "min(,a)", 1, 4);
        FormulaCheck.faults(3, 2, "min(a,b,a)", 1, 7);
        FormulaCheck.faults(3, 2, "max(a,b,a)", 1, 7);
    }

    private static void deepFormulas() {
        Sentences.about(FORMULAS, "\"(\" formula \")\"");
        FormulaCheck.gives(2, 2, "(".repeat(19) + "a" + ")".repeat(19), "0011");
        FormulaCheck.faults(2, 2, "(".repeat(20) + "a" + ")".repeat(19), 2, 40);
        FormulaCheck.faults(2, 2, "(".repeat(19) + "a" + ")".repeat(20), 1, 39);
        FormulaCheck.gives(2, 2, "max(a,".repeat(5) + "b" + ")".repeat(5), "0111");
        FormulaCheck.gives(2, 2, "min(".repeat(5) + "a" + ",b)".repeat(5), "0001");
    }

    private static void cellsOfANeighborhood() {
        Sentences.about(FORMULAS,
                "The cells a, b, c and d are the first, second, third and fourth cell of a neighborhood;");
        FormulaCheck.gives(2, 4, "a", "0000000011111111");
        FormulaCheck.gives(2, 4, "b", "0000111100001111");
        FormulaCheck.gives(2, 4, "c", "0011001100110011");
        FormulaCheck.gives(2, 4, "d", "0101010101010101");
        FormulaCheck.gives(3, 2, "b", "012012012");
    }

    private static void fourCells() {
        Sentences.about(FORMULAS, "cell = \"a\" | \"b\" | \"c\" | \"d\"");
        for (String text : new String[] {"a", "b", "c", "d"}) {
            fits(2, 4, text);
        }
        for (String text : new String[] {"e", "`", "A", "B", "C", "D", "E"}) {
            FormulaCheck.faults(2, 4, text, 1, 0);
        }
    }

    private static void cellsBeyondTheWidth() {
        Sentences.about(FORMULAS, "those beyond the width are not allowed.");
        for (int[] size : Check.SIZES) {
            for (int cell = 0; cell < 4; cell++) {
                String text = String.valueOf((char) ('a' + cell));
                if (cell < size[1]) {
                    fits(size[0], size[1], text);
                } else {
                    FormulaCheck.faults(size[0], size[1], text, 3, 0);
                }
            }
        }
        // The width counts that the automaton has when compile is called.
        PreimageAnalyzer x = Check.sized(2, 4);
        Check.write(x, "d");
        x.setSize(2, 3);
        Check.fails("compile() of d with width 3", Check.ARGUMENT, x::compile);
        Check.due("its kind", 3, x.error(0));
        Check.write(x, "d");
        x.setSize(2, 4);
        Check.due("compile() of d with width 4", 8, x.compile());
    }

    private static void operatorsOfInts() {
        Sentences.about(FORMULAS, "The operators are those of Java for ints;");
        FormulaCheck.holds(LEAST_INT + "<0");
        FormulaCheck.holds("0<" + LEAST_INT + "-1");
        FormulaCheck.holds("(" + LEAST_INT + "-1)+1<0");
        FormulaCheck.holds("0-" + LEAST_INT + "<0");
        FormulaCheck.holds(LEAST_INT + "*2=0");
        // The only quotient that is no int, and its remainder.
        FormulaCheck.holds(LEAST_INT + "/(0-1)<0");
        FormulaCheck.holds(LEAST_INT + "%(0-1)=0");
        FormulaCheck.holds("min(" + LEAST_INT + ",0)<0");
        FormulaCheck.holds("max(" + LEAST_INT + ",0)=0");
        FormulaCheck.holds(LEAST_INT + "<" + "9*9*9*9*9");
    }

    private static void divisionThatTruncates() {
        Sentences.about(FORMULAS, "/ and % are the quotient and remainder of a division that truncates.");
        FormulaCheck.holds("7/2=3");
        FormulaCheck.holds("(0-7)/2=0-3");
        FormulaCheck.holds("7/(0-2)=0-3");
        FormulaCheck.holds("(0-7)/(0-2)=3");
        FormulaCheck.holds("7%4=3");
        FormulaCheck.holds("(0-7)%4=0-3");
        FormulaCheck.holds("7%(0-4)=3");
        FormulaCheck.holds("(0-7)%(0-4)=0-3");
        FormulaCheck.holds("0/5=0");
        FormulaCheck.holds("0%5=0");
        FormulaCheck.holds("(0-8)%4=0");
        FormulaCheck.holds("(0-1)/2=0");
    }

    private static void comparisons() {
        Sentences.about(FORMULAS, "A comparison gives 1 or 0;");
        FormulaCheck.holds("2=2");
        FormulaCheck.holds("1<2");
        FormulaCheck.holds("(2=3)=0");
        FormulaCheck.holds("(2<2)=0");
        FormulaCheck.holds("(3<2)=0");
        FormulaCheck.holds("(1<9)=1");
        FormulaCheck.holds("0-1<0");
    }

    private static void not() {
        Sentences.about(FORMULAS, "!x is 1 if x is 0, otherwise 0.");
        FormulaCheck.holds("!0=1");
        FormulaCheck.holds("!1=0");
        FormulaCheck.holds("!2=0");
        FormulaCheck.holds("!9=0");
        FormulaCheck.holds("!(0-1)=0");
        FormulaCheck.holds("!(" + LEAST_INT + ")=0");
        // It is the value that counts, not the state that it gives: 3 is not 0.
        FormulaCheck.holds("!3=0");
    }

    private static void leftToRightOfOneLevel() {
        Sentences.about(FORMULAS, "All operators of the same level are applied from left to right.");
        FormulaCheck.holds("9-4-2=3");
        FormulaCheck.holds("9-4+2=7");
        FormulaCheck.holds("8/4/2=1");
        FormulaCheck.holds("8/4*2=4");
        FormulaCheck.holds("2*7%4=2");
        FormulaCheck.holds("7%4*2=6");
        FormulaCheck.holds("9%5%3=1");
        FormulaCheck.holds("9/2%3=1");
    }

    private static void outputsAreNotNegative() {
        Sentences.about(FORMULAS,
                "The output of a neighborhood is the value of the formula for its cells, modulo k, and not negative.");
        for (int value = -9; value <= 9; value++) {
            String text = value < 0 ? "0-" + -value : "" + value;
            int two = value % 2 == 0 ? 0 : 1;
            int three = ((value + 9) % 3);
            FormulaCheck.gives(2, 2, text, ("" + two).repeat(4));
            FormulaCheck.gives(3, 2, text, ("" + three).repeat(9));
        }
    }

    private static void firstErrorCounts() {
        Sentences.about(FORMULAS, "A formula is read from left to right.");
        FormulaCheck.faults(2, 2, "c)", 3, 0);
        FormulaCheck.faults(2, 2, "a)c", 1, 1);
        FormulaCheck.faults(2, 2, "(c", 3, 1);
        FormulaCheck.faults(2, 2, "a+#+c", 1, 2);
        FormulaCheck.faults(2, 2, "c+#", 3, 0);
        FormulaCheck.faults(2, 2, "a#(", 1, 1);
        FormulaCheck.faults(2, 2, "a+d+c", 3, 2);
        FormulaCheck.faults(2, 2, "1/0+#", 1, 4);
    }

    private static void wrongCharacters() {
        Sentences.about(FORMULAS, "1 a character that is not allowed there");
        FormulaCheck.faults(2, 3, "*", 1, 0);
        FormulaCheck.faults(2, 3, "a+*", 1, 2);
        FormulaCheck.faults(2, 3, "(a+)", 1, 3);
        FormulaCheck.faults(2, 3, "min(a;b)", 1, 5);
        FormulaCheck.faults(2, 3, "a+,", 1, 2);
        FormulaCheck.faults(2, 3, "!)", 1, 1);
        FormulaCheck.faults(2, 3, "a+".repeat(19) + "a+", 2, 40);
        FormulaCheck.faults(2, 3, "a+".repeat(19) + "a=", 2, 40);
        FormulaCheck.faults(2, 3, "a+".repeat(19) + "ab", 1, 39);
    }

    private static void behindACompleteFormula() {
        Sentences.about(FORMULAS, "also behind a complete formula;");
        FormulaCheck.faults(2, 3, "a)", 1, 1);
        FormulaCheck.faults(2, 3, "a,b", 1, 1);
        FormulaCheck.faults(2, 3, "a(b)", 1, 1);
        FormulaCheck.faults(2, 3, "(a)(b)", 1, 3);
        FormulaCheck.faults(2, 3, "(a))", 1, 3);
        FormulaCheck.faults(2, 3, "1!", 1, 1);
        FormulaCheck.faults(2, 3, "min(a,b)1", 1, 8);
        FormulaCheck.faults(2, 3, "amin(a,b)", 1, 1);
        FormulaCheck.faults(2, 3, "a=b)", 1, 3);
    }

    private static void endWhereItCannotEnd() {
        Sentences.about(FORMULAS, "2 the end of the formula where it cannot end;");
        String[] texts = {"", "a+", "a-", "a*", "a/", "a%", "a=", "a<", "!", "(", "(a", "(a+b", "min(", "min(a",
            "min(a,", "min(a,b", "max(a,(b)", "a+!"};
        for (String text : texts) {
            FormulaCheck.faults(2, 3, text, 2, text.length());
        }
    }

    private static void kindOfCellsBeyondTheWidth() {
        Sentences.about(FORMULAS, "3 a cell beyond the width;");
        FormulaCheck.faults(2, 2, "a+c", 3, 2);
        FormulaCheck.faults(3, 2, "(d)", 3, 1);
        FormulaCheck.faults(2, 3, "!!d", 3, 2);
        FormulaCheck.faults(3, 3, "min(a,d)", 3, 6);
        FormulaCheck.faults(3, 3, "a=d", 3, 2);
        FormulaCheck.faults(2, 2, "a+".repeat(19) + "ac", 1, 39);
        FormulaCheck.faults(2, 2, "!".repeat(39) + "c", 3, 39);
    }

    private static void quotientByZero() {
        Sentences.about(FORMULAS, "4 a division by 0 by the operator /;");
        FormulaCheck.faults(2, 2, "1/0", 4, 0);
        FormulaCheck.faults(2, 2, "0/0", 4, 0);
        FormulaCheck.faults(3, 3, LEAST_INT + "/(" + "1-1)", 4, 0);
        FormulaCheck.faults(2, 2, "0*(1/0)", 4, 0);
        FormulaCheck.faults(2, 2, "1/(" + "9-9)", 4, 0);
        // The value counts, not the state: 2 is not 0 for two states.
        FormulaCheck.gives(2, 2, "2/2", "1111");
    }

    private static void remainderByZero() {
        Sentences.about(FORMULAS, "5 a division by 0 by the operator %.");
        FormulaCheck.faults(2, 2, "1%0", 5, 0);
        FormulaCheck.faults(2, 2, "0%0", 5, 0);
        FormulaCheck.faults(3, 3, LEAST_INT + "%(" + "1-1)", 5, 0);
        FormulaCheck.faults(2, 2, "0*(1%0)", 5, 0);
        FormulaCheck.gives(2, 2, "3%2", "1111");
        FormulaCheck.gives(2, 2, "2%4/2", "1111");
    }

    private static void placeOfWrongCharacters() {
        Sentences.about(FORMULAS, "The place of an error of the kinds 1 to 3 is the index of the character, or the "
                + "length of the formula for kind 2;");
        FormulaCheck.faults(2, 3, "#", 1, 0);
        FormulaCheck.faults(2, 3, "!".repeat(39) + "#", 1, 39);
        FormulaCheck.faults(2, 3, "", 2, 0);
        FormulaCheck.faults(2, 3, "!", 2, 1);
        FormulaCheck.faults(2, 3, "!".repeat(40), 2, 40);
        FormulaCheck.faults(2, 3, "d", 3, 0);
        FormulaCheck.faults(2, 3, "!".repeat(39) + "d", 3, 39);
    }

    private static void incompleteLetters() {
        Sentences.about(FORMULAS, "if the letters min or max are not complete, the place is the index of the first "
                + "letter that is not as it must be");
        FormulaCheck.faults(2, 3, "mn(a,b)", 1, 1);
        FormulaCheck.faults(2, 3, "mx(a,b)", 1, 1);
        FormulaCheck.faults(2, 3, "mm", 1, 1);
        FormulaCheck.faults(2, 3, "m(a,b)", 1, 1);
        FormulaCheck.faults(2, 3, "mi(a,b)", 1, 2);
        FormulaCheck.faults(2, 3, "ma(a,b)", 1, 2);
        FormulaCheck.faults(2, 3, "mix(a,b)", 1, 2);
        FormulaCheck.faults(2, 3, "man(a,b)", 1, 2);
        FormulaCheck.faults(2, 3, "a+mib", 1, 4);
        FormulaCheck.faults(2, 3, "Min(a,b)", 1, 0);
        FormulaCheck.faults(2, 3, "miN(a,b)", 1, 2);
    }

    private static void incompleteLettersAtTheEnd() {
        Sentences.about(FORMULAS, "or the end of the formula.");
        FormulaCheck.faults(2, 3, "m", 2, 1);
        FormulaCheck.faults(2, 3, "mi", 2, 2);
        FormulaCheck.faults(2, 3, "ma", 2, 2);
        FormulaCheck.faults(2, 3, "a+m", 2, 3);
        FormulaCheck.faults(2, 3, "min(a,ma", 2, 8);
        FormulaCheck.faults(2, 3, "!".repeat(38) + "mi", 2, 40);
    }

    private static void ascendingOrder() {
        Sentences.about(FORMULAS,
                "A formula without such an error is evaluated for all neighborhoods in ascending order;");
        // Each of the two divisions fails for one neighborhood alone: the lower one counts.
        FormulaCheck.faults(2, 2, "1/(3-a*2-b)+1%(a*2+b)", 5, 0);
        FormulaCheck.faults(2, 2, "1%(3-a*2-b)+1/(a*2+b)", 4, 0);
        FormulaCheck.faults(3, 2, "1/(a*3+b-4)+1%(a*3+b-3)", 5, 3);
        FormulaCheck.faults(3, 2, "1/(a*3+b-4)+1%(a*3+b-5)", 4, 4);
    }

    private static void firstNeighborhood() {
        Sentences.about(FORMULAS, "the place of an error of the kinds 4 and 5 is the index of the first neighborhood "
                + "for which it occurs");
        FormulaCheck.faults(2, 2, "1/a", 4, 0);
        FormulaCheck.faults(2, 2, "1/(1-a)", 4, 2);
        FormulaCheck.faults(2, 2, "1%(1-b)", 5, 1);
        FormulaCheck.faults(2, 2, "1/(1-a*b)", 4, 3);
        FormulaCheck.faults(2, 3, "1%(1-a*b*c)", 5, 7);
        FormulaCheck.faults(2, 4, "1/(1-a*b*c*d)", 4, 15);
        FormulaCheck.faults(3, 2, "1/(4-a-b)", 4, 8);
        FormulaCheck.faults(3, 3, "1%(6-a-b-c)", 5, 26);
        // One neighborhood further there is none that fails.
        FormulaCheck.gives(3, 2, "1/(5-a-b)", "000000001");
    }

    private static void firstDivision() {
        Sentences.about(FORMULAS, "and if several divisions fail for this neighborhood, the first one that is carried "
                + "out counts");
        FormulaCheck.faults(2, 2, "1/0%0", 4, 0);
        FormulaCheck.faults(2, 2, "1%0/0", 5, 0);
        FormulaCheck.faults(2, 2, "1/(1%0)", 5, 0);
        FormulaCheck.faults(2, 2, "1%(1/0)", 4, 0);
        FormulaCheck.faults(2, 2, "(1/0)%(1%0)", 4, 0);
        FormulaCheck.faults(2, 2, "(1/a)%(1-a)", 4, 0);
        FormulaCheck.faults(2, 2, "!(1%a)/a", 5, 0);
    }

    private static void leftOperandFirst() {
        Sentences.about(FORMULAS, "where the left operand of an operator");
        for (String operator : new String[] {"+", "-", "=", "<"}) {
            FormulaCheck.faults(2, 2, "1/0" + operator + "1%0", 4, 0);
            FormulaCheck.faults(2, 2, "1%0" + operator + "1/0", 5, 0);
        }
        for (String operator : new String[] {"*", "/", "%"}) {
            FormulaCheck.faults(2, 2, "(1/0)" + operator + "(1%0)", 4, 0);
            FormulaCheck.faults(2, 2, "(1%0)" + operator + "(1/0)", 5, 0);
        }
        // The product on the right is carried out behind the left operand, though it binds more tightly.
        FormulaCheck.faults(2, 2, "(1%0)+2*(1/0)", 5, 0);
    }

    private static void firstFormulaFirst() {
        Sentences.about(FORMULAS, "and the first formula of min and max are evaluated first.");
        FormulaCheck.faults(2, 2, "min(1/0,1%0)", 4, 0);
        FormulaCheck.faults(2, 2, "min(1%0,1/0)", 5, 0);
        FormulaCheck.faults(2, 2, "max(1/0,1%0)", 4, 0);
        FormulaCheck.faults(2, 2, "max(1%0,1/0)", 5, 0);
        FormulaCheck.faults(2, 2, "max(1,1/0)", 4, 0);
    }
}
