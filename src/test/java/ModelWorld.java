import java.util.ArrayList;
import java.util.HashMap;
import java.util.HashSet;
import java.util.List;
import java.util.Map;
import java.util.Set;

/** The document's words once more, with the Java library and recursion, to compare the program with. */
final class ModelWorld {
    private record Rule(int verb, int subject, int condition, int effect) {
    }

    private final Set<Integer> darkRooms = new HashSet<>();
    private final Map<String, Integer> exits = new HashMap<>();
    private final int[] traits = new int[8];
    private final int[] places = {7, 7, 7, 7, 7, 7, 7, 7};
    private final int[] counters = new int[4];
    private int player = 0;
    private final Map<String, Integer> words = new HashMap<>();
    private final List<Rule> rules = new ArrayList<>();
    private String typed = "";
    private final List<Integer> numbers = new ArrayList<>();

    private static boolean from(int low, int high, int n) {
        return low <= n && n <= high;
    }

    boolean dark(int room, boolean on) {
        if (!from(0, 5, room)) {
            return false;
        }
        if (on) {
            darkRooms.add(room);
        } else {
            darkRooms.remove(room);
        }
        return true;
    }

    boolean link(int room, int direction, int to) {
        if (!from(0, 5, room) || !from(0, 3, direction) || !from(-1, 5, to)) {
            return false;
        }
        if (to == -1) {
            exits.remove(room + "/" + direction);
        } else {
            exits.put(room + "/" + direction, to);
        }
        return true;
    }

    private boolean inside(int t, int other) {
        int place = places[t];
        return place >= 8 && (place - 8 == other || inside(place - 8, other));
    }

    private boolean getsInsideItself(int t, int place) {
        return place >= 8 && (place - 8 == t || inside(place - 8, t));
    }

    boolean thing(int t, int newTraits, int place) {
        if (!from(0, 7, t) || !from(0, 15, newTraits) || !from(0, 15, place) || getsInsideItself(t, place)) {
            return false;
        }
        traits[t] = newTraits;
        places[t] = place;
        return true;
    }

    int word(int letters, int meaning) {
        if (!from(1, 531440, letters)) {
            return -1;
        }
        StringBuilder text = new StringBuilder();
        for (int rest = letters; rest > 0; rest /= 27) {
            text.append("-abcdefghijklmnopqrstuvwxyz".charAt(rest % 27));
        }
        boolean known = from(0, 5, meaning) || from(10, 13, meaning) || from(20, 27, meaning) || meaning == 30;
        if (text.indexOf("-") >= 0 || !known) {
            return -1;
        }
        if (words.size() == 24 && !words.containsKey(text.toString())) {
            return -2;
        }
        words.put(text.toString(), meaning);
        return words.size();
    }

    int rule(int verb, int subject, int condition, int effect) {
        if (rules.size() == 16) {
            return -2;
        }
        if (!from(0, 5, verb) || !from(-1, verb == 0 ? 3 : 7, subject)
                || !from(0, 1023, condition) || !from(0, 2047, effect)) {
            return -1;
        }
        int[] mostA = {15, 3, 7, 7};
        int[] mostB = {15, 15, 15, 3};
        if (condition / 4 % 16 > mostA[condition % 4] || condition / 64 > mostB[condition % 4]) {
            return -1;
        }
        int[] mostEffectA = {15, 7, 3, 5};
        if (effect / 4 % 16 > mostEffectA[effect % 4]) {
            return -1;
        }
        rules.add(new Rule(verb, subject, condition, effect));
        return rules.size();
    }

    int unrule() {
        if (rules.isEmpty()) {
            return -1;
        }
        rules.remove(rules.size() - 1);
        return rules.size();
    }

    boolean type(int c) {
        if (!from(97, 122, c) && c != 32 || typed.length() == 30) {
            return false;
        }
        typed += (char) c;
        return true;
    }

    int enter() {
        String line = typed;
        typed = "";
        StringBuilder shape = new StringBuilder();
        List<Integer> meanings = new ArrayList<>();
        for (String word : line.split(" ")) {
            if (word.isEmpty()) {
                continue;
            }
            Integer meaning = words.get(word.substring(0, Math.min(4, word.length())));
            if (meaning == null) {
                return 11;
            }
            if (meaning != 30) {
                meanings.add(meaning);
                shape.append(meaning < 10 ? "GtdPoc".charAt(meaning) : meaning < 20 ? 'D' : 'T');
            }
        }
        String sentence = shape.toString();
        if (sentence.isEmpty()) {
            return 13;
        }
        if (sentence.equals("D") || sentence.equals("GD")) {
            return command(0, meanings.get(meanings.size() - 1) - 10, 0);
        }
        if (sentence.matches("[tdoc]T")) {
            return command(meanings.get(0), meanings.get(1) - 20, 0);
        }
        if (sentence.equals("PTT")) {
            return command(3, meanings.get(1) - 20, meanings.get(2) - 20);
        }
        return 12;
    }

    int command(int verb, int x, int y) {
        if (!from(0, 5, verb) || !from(0, verb == 0 ? 3 : 7, x) || verb == 3 && !from(0, 7, y)) {
            return -1;
        }
        boolean stopped = false;
        for (Rule rule : rules) {
            if (rule.verb == verb && (rule.subject == x || rule.subject == -1) && holds(rule.condition)) {
                takePlace(rule.effect % 1024);
                stopped |= rule.effect >= 1024;
            }
        }
        return stopped ? 1 : result(verb, x, y);
    }

    private boolean holds(int condition) {
        int a = condition / 4 % 16;
        int b = condition / 64;
        return switch (condition % 4) {
            case 0 -> true;
            case 1 -> counters[a] >= b;
            case 2 -> places[a] == b;
            default -> traits[a] / (int) Math.pow(2, b) % 2 == 1;
        };
    }

    private void takePlace(int effect) {
        int a = effect / 4 % 16;
        int b = effect / 64;
        if (effect % 4 == 0) {
            numbers.add(a + 16 * b);
        } else if (effect % 4 == 1) {
            places[a] = getsInsideItself(a, b) ? places[a] : b;
        } else if (effect % 4 == 2) {
            counters[a] += b - 8;
        } else {
            player = a;
        }
    }

    private long howManyIn(int place) {
        return java.util.Arrays.stream(places).filter(p -> p == place).count();
    }

    private boolean box(int t) {
        return traits[t] / 2 % 2 == 1;
    }

    private boolean open(int t) {
        return traits[t] / 4 % 2 == 1;
    }

    private int result(int verb, int x, int y) {
        boolean held = places[x] == 6;
        switch (verb) {
            case 0:
                Integer exit = exits.get(player + "/" + x);
                player = exit == null ? player : exit;
                return exit == null ? 9 : 0;
            case 1:
                int take = !visible(x) ? 2 : held ? 3 : traits[x] % 2 == 1 ? 4 : howManyIn(6) >= 4 ? 5 : 0;
                places[x] = take == 0 ? 6 : places[x];
                return take;
            case 2:
                places[x] = held ? player : places[x];
                return held ? 0 : 6;
            case 3:
                int put = !held ? 6 : !visible(y) ? 2 : !box(y) || y == x || inside(y, x) ? 7
                        : !open(y) ? 8 : howManyIn(8 + y) >= 3 ? 5 : 0;
                places[x] = put == 0 ? 8 + y : places[x];
                return put;
            default:
                int turn = !visible(x) ? 2 : !box(x) ? 7 : open(x) == (verb == 4) ? 10 : 0;
                traits[x] += turn != 0 ? 0 : verb == 4 ? 4 : -4;
                return turn;
        }
    }

    int place(int t) {
        return from(0, 7, t) ? places[t] : -1;
    }

    int traits(int t) {
        return from(0, 7, t) ? traits[t] : -1;
    }

    int player() {
        return player;
    }

    int counter(int k) {
        return from(0, 3, k) ? counters[k] : 0;
    }

    private boolean near(int t) {
        int place = places[t];
        return place == player || place == 6
                || place >= 8 && box(place - 8) && open(place - 8) && near(place - 8);
    }

    boolean visible(int t) {
        if (!from(0, 7, t) || !near(t)) {
            return false;
        }
        boolean lit = !darkRooms.contains(player);
        for (int lamp = 0; lamp < 8; lamp++) {
            lit |= traits[lamp] >= 8 && near(lamp);
        }
        return lit;
    }

    int said() {
        return numbers.size();
    }

    int saying(int k) {
        return from(0, Math.min(39, numbers.size() - 1), k) ? numbers.get(k) : -1;
    }
}
