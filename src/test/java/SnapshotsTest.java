/** Promises 35 and 36: save, restore. */
public final class SnapshotsTest {
    public static void main(String[] args) {
        saveAndRestore();
        saveReplaces();
        whatIsNotSaved();
        nothingSaved();
        Check.end();
    }

    private static void saveAndRestore() {
        PreimageAnalyzer x = Check.numbered(2, 4, 54000);
        for (int i = 0; i < 4; i++) {
            x.setWord(i, 3 * i, i);
        }
        String before = Check.stateOf(x);
        Check.due("save()", 54000, x.save());
        Check.due("the state after save()", before, Check.stateOf(x));
        x.setSize(3, 3);
        x.setNumber(7625597484986L);
        x.setWord(2, 14, 4782968);
        Check.due("restore()", 54000, x.restore());
        Check.due("the state after restore()", before, Check.stateOf(x));
        Check.due("edge(7, 0, 0) after restore()", 6, x.edge(7, 0, 0));
        x.setOutput(0, 1);
        x.setWord(3, 0, 0);
        Check.due("restore() again", 54000, x.restore());
        Check.due("the state after restore() again", before, Check.stateOf(x));
        x.setOutput(15, 0);
        x.apply(3, true);
        x.restore();
        Check.due("what is changed after restore() is not what is saved", before, Check.stateOf(x));
    }

    private static void saveReplaces() {
        PreimageAnalyzer x = Check.numbered(2, 3, 30);
        x.setWord(1, 2, 2);
        Check.due("save()", 30, x.save());
        x.setSize(3, 3);
        x.setNumber(5986202329676L);
        Check.due("save() of another size", 5986202329676L, x.save());
        x.setSize(2, 2);
        Check.due("restore()", 5986202329676L, x.restore());
        Check.due("size(0)", 3, x.size(0));
        Check.due("size(3)", 9, x.size(3));
        Check.due("wordLength(1)", 0, x.wordLength(1));
        Check.due("subsets() after restore()", 512, x.subsets());
    }

    private static void whatIsNotSaved() {
        PreimageAnalyzer x = Check.numbered(2, 3, 30);
        Check.write(x, "a+");
        x.save();
        Check.fails("compile()", Check.ARGUMENT, x::compile);
        Check.write(x, "a+c");
        x.restore();
        Check.due("the error after restore()", 2, x.error(0));
        Check.due("the place after restore()", 2, x.error(1));
        Check.due("the buffer after restore()", 3, x.append(0));
        Check.due("compile() after restore()", 2, x.compile());
        Check.due("number()", 90, x.number());
    }

    private static void nothingSaved() {
        PreimageAnalyzer x = Check.numbered(2, 3, 30);
        x.setWord(0, 3, 3);
        Check.refuses(x, "restore()", Check.STATE, x::restore);
        x.setSize(3, 2);
        Check.refuses(x, "restore() after setSize", Check.STATE, x::restore);
        Check.due("save() of a new size", 0, x.save());
        Check.due("restore()", 0, x.restore());
    }
}
