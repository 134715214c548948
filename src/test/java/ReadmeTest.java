import java.io.IOException;
import java.nio.file.Files;
import java.nio.file.Path;
import java.util.ArrayList;
import java.util.List;
import java.util.regex.Matcher;
import java.util.regex.Pattern;

/** What README.md tells of calls and texts is so. It is to run in the project's folder. */
public final class ReadmeTest {
    private static final Due due = new Due();
    private static final List<String> called = new ArrayList<>();

    public static void main(String[] args) throws IOException {
        String page = Files.readString(Path.of("README.md"));
        calls();
        due.holds("the calls on the page are these: " + called, callsOn(page).equals(called));
        texts(page);
        errors(page);
        puts(page, Files.readString(Path.of("src/test/java/ReadmeTest.java")));
        due.finish();
    }

    private static void is(String call, long got) {
        called.add(call + " " + got);
    }

    /** The calls of the page, in their order; what they answer here has to stand behind them there. */
    private static void calls() {
        BlockTrees trees = new BlockTrees();
        is("trees.put(0x753176322c33L)", trees.put(0x753176322c33L));
        is("trees.fault()", trees.fault());
        is("trees.tell(0)", trees.tell(0));
        is("trees.at(0, 5, 5)", trees.at(0, 5, 5));
        is("trees.entry(0, 5, 5, -7)", trees.entry(0, 5, 5, -7));
        is("trees.block(0, 5, 5, 1)", trees.block(0, 5, 5, 1));
        is("trees.of(0, 0)", trees.of(0, 0));
        is("trees.entry(0, 5, 5, 3)", trees.entry(0, 5, 5, 3));
        is("trees.shrink(0)", trees.shrink(0));
        is("trees.undo()", trees.undo());
        is("trees.count(2)", trees.count(2));
        is("trees.at(4, 0, 0)", trees.at(4, 0, 0));
    }

    private static List<String> callsOn(String page) {
        List<String> calls = new ArrayList<>();
        Matcher line = Pattern.compile("(?m)^(trees\\.\\w+\\(.*?\\)); +// (-?\\d+):").matcher(page);
        while (line.find()) {
            calls.add(line.group(1) + " " + line.group(2));
        }
        return calls;
    }

    private static void texts(String page) {
        String[] right = {"0", "d5", "u1,2v3,4", "f1,2,3", "(0d5f1,2(0000))"};
        int[] sorts = {BlockTrees.EMPTY, BlockTrees.THIN, BlockTrees.THIN, BlockTrees.FULL};
        for (int k = 0; k < right.length; k++) {
            due.holds("the page has " + right[k], page.contains("- `" + right[k] + "`: "));
            BlockTrees trees = Due.told(right[k]);
            if (k < sorts.length) {
                due.is("sort of " + right[k], trees.block(0, 0, 0, 0), sorts[k]);
            } else {
                due.is("CUT ones of " + right[k], trees.of(0, 5), 2);
            }
        }
        due.holds("the page has (d0000)", page.contains("`(d0000)` has all"));
        due.is("(d0000)", Due.tell(new BlockTrees(), 0, "(d0000)"), 17);
        due.holds("the page has (d1000)", page.contains("`(d1000)` has a fault"));
        due.is("(d1000)", Due.fault(new BlockTrees(), "(d1000)"), 5);
    }

    private static void errors(String page) {
        String[] names = {"NO_SUCH", "BAD_VALUE", "BAD_TEXT", "TOO_MANY", "NOT_POSSIBLE", "NONE"};
        for (int k = 0; k < names.length; k++) {
            due.holds("the page has " + names[k],
                    Pattern.compile("\\| +" + (-1 - k) + " \\| `" + names[k] + "` +\\| [`\\w]+").matcher(page).find());
        }
    }

    /** The method of the page that puts texts stands here, too, line by line. */
    private static void puts(String page, String here) {
        int begin = page.indexOf("static int put(");
        due.holds("the page has the method", begin >= 0);
        String method = page.substring(Math.max(begin, 0), page.indexOf("```", Math.max(begin, 0)));
        due.holds("it is the one of this test", here.contains(method.strip().replaceAll("(?m)^(?=.)", "    ")));
        String text = "(u1,2v3,4f1,2,3(000d-5)f7" + ",7".repeat(27) + ")";
        for (int length = 0; length <= text.length(); length++) {
            BlockTrees trees = new BlockTrees();
            due.is("put " + length, put(trees, text.substring(0, length)), length);
            due.is("fault of " + length, trees.fault(), length < text.length() ? length : BlockTrees.NONE);
        }
        BlockTrees trees = new BlockTrees();
        put(trees, text);
        due.is("too long", put(trees, text), BlockTrees.TOO_MANY);
        due.is("tell", trees.tell(0), 1 + 16 + 64 + 9 + 64);
    }

    static int put(BlockTrees trees, String text) {
        int length = trees.count(3);
        for (int from = 0; from < text.length() && length >= 0; from += 8) {
            long characters = 0;
            for (int i = from; i < text.length() && i < from + 8; i++) {
                characters = characters << 8 | text.charAt(i);
            }
            length = trees.put(characters);
        }
        return length;
    }
}
