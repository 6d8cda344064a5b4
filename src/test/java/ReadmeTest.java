import java.nio.charset.StandardCharsets;
import java.nio.file.Files;
import java.nio.file.Path;
import java.util.regex.Matcher;
import java.util.regex.Pattern;

/** Plays the example of README.md, so that what it tells of each answer stays true. */
public final class ReadmeTest {
    private static final Pattern TYPED = Pattern.compile("for \\(char c : \"([^\"]*)\".*board\\.type\\((\\d), c\\);.*");
    private static final Pattern ASKED =
            Pattern.compile("board\\.(\\w+)\\(([\\d, ]*)\\);\\s*// (?:(-?\\d+)(?::|, and below (\\d+):))?.*");
    private static int wrong = 0;
    private static int answers = 0;

    public static void main(String[] args) throws Exception {
        String readme = Files.readString(Path.of("README.md"), StandardCharsets.UTF_8);
        String example = readme.replaceAll("(?s).*?```java\n(.*?)```.*", "$1");
        BoardRemembers board = new BoardRemembers();
        for (String line : example.split("\n")) {
            play(board, line);
        }
        must(answers >= 6, "only " + answers + " answers were found in the example");
        System.out.println(answers + " answers of the README's example, " + wrong + " wrong");
        if (wrong != 0) {
            System.exit(1);
        }
    }

    private static void must(boolean holds, String what) {
        if (!holds) {
            wrong++;
            System.out.println(what);
        }
    }

    private static void play(BoardRemembers board, String line) throws Exception {
        Matcher typed = TYPED.matcher(line);
        Matcher asked = ASKED.matcher(line);
        if (typed.matches()) {
            for (char c : typed.group(1).toCharArray()) {
                board.type(Integer.parseInt(typed.group(2)), c);
            }
        } else if (asked.matches()) {
            String[] numbers = asked.group(2).split(", ");
            long got = call(board, asked.group(1), numbers);
            compare(line, got, asked.group(3));
            if (asked.group(4) != null) {
                numbers[numbers.length - 1] = "1";
                compare(line, call(board, asked.group(1), numbers), asked.group(4));
            }
        } else {
            must(line.equals("BoardRemembers board = new BoardRemembers();"), "not understood: " + line);
        }
    }

    private static void compare(String line, long got, String due) {
        if (due != null) {
            answers++;
            must(got == Long.parseLong(due), line + " answered " + got);
        }
    }

    private static long call(BoardRemembers board, String name, String[] numbers) throws Exception {
        Class<?>[] kinds = new Class<?>[numbers.length];
        Object[] given = new Object[numbers.length];
        for (int i = 0; i < numbers.length; i++) {
            kinds[i] = int.class;
            given[i] = Integer.valueOf(numbers[i]);
        }
        return ((Number) BoardRemembers.class.getMethod(name, kinds).invoke(board, given)).longValue();
    }
}
