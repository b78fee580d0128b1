import java.util.ArrayList;
import java.util.List;
import java.util.regex.Matcher;
import java.util.regex.Pattern;

/** The faults of a text once more: tokens by a pattern, lines by the forms that they may still become. */
final class TextOracle {
    private static final Pattern TOKEN = Pattern.compile("[a-z]+|[0-9]+|;|[\\n ]+|.", Pattern.DOTALL);
    private static final String[][] FORMS = {
        {
            "P bench|stool|chair|table, oak|walnut|pine, 0-50, 1-99, 0-63, 1-9",
            "W sits, 1-30, 0-7",
            "W stands, 1-30",
            "- damp, 0-9",
        },
        {
            "D motion, 0-63", "D stand, 0-5", "D wax|set, 0-7", "D sit, 0-5, 0-7", "D wet|dry|night",
        },
        {
            "F sounds|still, 0-60, 0-9, 0-6",
        },
    };
    private static final String COUNTED = "PWDF";
    private static final int[] MOST = {8, 6, 40, 8};

    private TextOracle() {
    }

    /** The fault and its place (0, -1 without). */
    static int[] fault(int sort, String text) {
        List<int[]> faults = new ArrayList<>();
        int[] counts = new int[4];
        List<Integer> seats = new ArrayList<>();
        List<String> line = new ArrayList<>();
        List<Integer> places = new ArrayList<>();
        Matcher matcher = TOKEN.matcher(text);
        while (matcher.find()) {
            String token = matcher.group();
            if (token.isBlank() && token.matches("[\\n ]+")) {
                continue;
            }
            line.add(token);
            places.add(matcher.start());
            String form = formOf(sort, line);
            if (form == null) {
                return new int[] {1, matcher.start()};
            }
            if (token.equals(";")) {
                endLine(form, line, places, counts, seats, faults);
                line.clear();
                places.clear();
            }
        }
        if (!line.isEmpty()) {
            return new int[] {1, text.length()};
        }
        faults.sort((a, b) -> a[1] != b[1] ? a[1] - b[1] : a[0] - b[0]);
        if (!faults.isEmpty()) {
            return faults.get(0);
        }
        int pieces = counts[0];
        return seats.stream().anyMatch(s -> s >= pieces) ? new int[] {4, text.length()} : new int[] {0, -1};
    }

    /** The form that a line can still become, or null. */
    private static String formOf(int sort, List<String> line) {
        for (String form : FORMS[sort]) {
            String[] parts = (form.substring(2) + ", ;").split(", ");
            boolean may = line.size() <= parts.length;
            for (int i = 0; may && i < line.size(); i++) {
                may = parts[i].contains("-") ? line.get(i).matches("[0-9]{1,2}") : line.get(i).matches(parts[i]);
            }
            if (may) {
                return form;
            }
        }
        return null;
    }

    private static void endLine(String form, List<String> line, List<Integer> places, int[] counts,
            List<Integer> seats, List<int[]> faults) {
        int counted = COUNTED.indexOf(form.charAt(0));
        if (counted >= 0) {
            counts[counted]++;
            if (counts[counted] > MOST[counted]) {
                faults.add(new int[] {3, places.get(0)});
            }
        }
        String[] parts = form.substring(2).split(", ");
        for (int i = 0; i < parts.length; i++) {
            if (parts[i].contains("-")) {
                String[] ends = parts[i].split("-");
                int value = Integer.parseInt(line.get(i));
                if (value < Integer.parseInt(ends[0]) || value > Integer.parseInt(ends[1])) {
                    faults.add(new int[] {2, places.get(i)});
                }
            }
        }
        if (line.get(0).equals("sits")) {
            seats.add(Integer.parseInt(line.get(2)));
        }
    }
}
