import java.util.ArrayDeque;
import java.util.ArrayList;
import java.util.Collections;
import java.util.Deque;
import java.util.HashSet;
import java.util.List;
import java.util.Set;
import java.util.TreeMap;
import java.util.regex.Matcher;
import java.util.regex.Pattern;

/** The document once more, told with the Java library; ModelTest compares the class with it. */
final class Model {
    private static final int INVALID = -1000001;
    private static final int IMPOSSIBLE = -1000002;
    private static final int LIMIT = -1000003;
    private static final int MISSING = -1000004;

    private static final Pattern BEGUN = Pattern.compile(
            "|[gs];?|[cb]\\d{0,3}|[cb]\\d{1,3};|p\\d{0,3}|p\\d{1,3},\\d{0,3}|p\\d{1,3},\\d{1,3};");
    private static final Pattern ORDER = Pattern.compile("([gscbp])(\\d{1,3})?,?(\\d{1,3})?;");

    private static final class Chair {
        int tone;
        int used;
        Integer sitter;

        Chair copy() {
            Chair copy = new Chair();
            copy.tone = tone;
            copy.used = used;
            copy.sitter = sitter;
            return copy;
        }
    }

    private static final class Player {
        int number;
        int stride;
        int ear;
        boolean out;
        int place;
        int sat;
        int bumps;
        int steps;
        Integer outRound;
        Integer tick;

        Player copy() {
            Player copy = new Player();
            copy.number = number;
            copy.stride = stride;
            copy.ear = ear;
            copy.out = out;
            copy.place = place;
            copy.sat = sat;
            copy.bumps = bumps;
            copy.steps = steps;
            copy.outRound = outRound;
            copy.tick = tick;
            return copy;
        }
    }

    private static final class State {
        List<Chair> chairs = new ArrayList<>();
        List<Player> players = new ArrayList<>();
        List<int[]> rings = new ArrayList<>();
        int phase;
        int setting = 1;
        int rounds;
        int beats;
        int sat;
        int bumps;
        int outsByRounds;
        int steps;
        int ticks;
        int taken;

        State copy() {
            State copy = new State();
            for (Chair chair : chairs) {
                copy.chairs.add(chair.copy());
            }
            for (Player player : players) {
                copy.players.add(player.copy());
            }
            copy.rings.addAll(rings);
            copy.phase = phase;
            copy.setting = setting;
            copy.rounds = rounds;
            copy.beats = beats;
            copy.sat = sat;
            copy.bumps = bumps;
            copy.outsByRounds = outsByRounds;
            copy.steps = steps;
            copy.ticks = ticks;
            copy.taken = taken;
            return copy;
        }

        List<Player> inPlay() {
            List<Player> found = new ArrayList<>();
            for (Player player : players) {
                if (!player.out) {
                    found.add(player);
                }
            }
            return found;
        }
    }

    /** A stop that was followed to its end. */
    private static final class Fate {
        TreeMap<Integer, Integer> seats = new TreeMap<>();
        TreeMap<Integer, Integer> bumps = new TreeMap<>();
        TreeMap<Integer, Integer> ticks = new TreeMap<>();
        Set<Integer> outs = new HashSet<>();
        List<int[]> rings = new ArrayList<>();
        int lastTick;
    }

    private State now = new State();
    private final Deque<State> past = new ArrayDeque<>();
    private String text = "";

    private static Fate fate(State state, int beatsMore) {
        Fate fate = new Fate();
        int size = state.chairs.size();
        TreeMap<Integer, Integer> places = new TreeMap<>();
        TreeMap<Integer, Set<Integer>> knowledge = new TreeMap<>();
        Set<Integer> taken = new HashSet<>();
        for (Player player : state.inPlay()) {
            places.put(player.number, (player.place + player.stride * beatsMore) % size);
            knowledge.put(player.number, new HashSet<>());
            fate.bumps.put(player.number, 0);
        }
        while (fate.seats.size() + fate.outs.size() < places.size()) {
            fate.lastTick++;
            TreeMap<Integer, List<int[]>> aims = new TreeMap<>();
            for (int number : places.keySet()) {
                if (fate.seats.containsKey(number) || fate.outs.contains(number)) {
                    continue;
                }
                if (knowledge.get(number).size() == size) {
                    fate.outs.add(number);
                    fate.ticks.put(number, fate.lastTick);
                    continue;
                }
                int way = 0;
                while (knowledge.get(number).contains((places.get(number) + way) % size)) {
                    way++;
                }
                aims.computeIfAbsent((places.get(number) + way) % size, k -> new ArrayList<>())
                        .add(new int[] {way, number});
            }
            List<Integer> rung = new ArrayList<>();
            for (int chair : aims.keySet()) {
                List<int[]> comers = aims.get(chair);
                comers.sort((a, b) -> a[0] != b[0] ? a[0] - b[0] : a[1] - b[1]);
                for (int[] comer : comers) {
                    if (taken.add(chair)) {
                        fate.seats.put(comer[1], chair);
                        fate.ticks.put(comer[1], fate.lastTick);
                        fate.rings.add(new int[] {fate.lastTick, chair, comer[1]});
                        rung.add(chair);
                    } else {
                        fate.bumps.merge(comer[1], 1, Integer::sum);
                        knowledge.get(comer[1]).add(chair);
                        places.put(comer[1], chair);
                    }
                }
            }
            for (int chair : rung) {
                for (int number : places.keySet()) {
                    if (hearing(state, number, chair)) {
                        knowledge.get(number).add(chair);
                    }
                }
            }
        }
        return fate;
    }

    private static boolean hearing(State state, int player, int chair) {
        return (state.players.get(player).ear & (1 << state.chairs.get(chair).tone)) != 0;
    }

    private static int bits(Set<Integer> numbers) {
        int bits = 0;
        for (int number : numbers) {
            bits |= 1 << number;
        }
        return bits;
    }

    private int changed(State after, int answer) {
        past.addLast(now);
        if (past.size() > 4) {
            past.removeFirst();
        }
        now = after;
        return answer;
    }

    private int tried(int kind, int a, int b, int c) {
        State after = now.copy();
        int answer = change(after, kind, a, b, c);
        return answer < 0 ? answer : changed(after, answer);
    }

    private static int change(State state, int kind, int a, int b, int c) {
        switch (kind) {
            case 'c':
                return chair(state, a);
            case 'p':
                return player(state, a, b);
            case 't':
                return tune(state, a, b);
            case 'r':
                return train(state, a, b, c);
            case 'g':
                return start(state);
            case 'b':
                return beat(state, a);
            case 's':
                return stop(state);
            default:
                return set(state, a, b);
        }
    }

    private static int chair(State state, int tone) {
        if (tone < 0 || tone > 8) {
            return INVALID;
        }
        if (state.phase != 0) {
            return IMPOSSIBLE;
        }
        if (state.chairs.size() == 16) {
            return LIMIT;
        }
        Chair chair = new Chair();
        chair.tone = tone;
        state.chairs.add(chair);
        return state.chairs.size() - 1;
    }

    private static int player(State state, int stride, int ear) {
        if (stride < 0 || stride > 9 || ear < 0 || ear > 511) {
            return INVALID;
        }
        if (state.phase != 0) {
            return IMPOSSIBLE;
        }
        if (state.players.size() == 12) {
            return LIMIT;
        }
        Player player = new Player();
        player.number = state.players.size();
        player.stride = stride;
        player.ear = ear;
        state.players.add(player);
        return player.number;
    }

    private static boolean lacksChair(State state, int place) {
        return place < 0 || place >= state.chairs.size();
    }

    private static boolean lacksPlayer(State state, int player) {
        return player < 0 || player >= state.players.size();
    }

    private static int tune(State state, int place, int tone) {
        if (lacksChair(state, place) || tone < 0 || tone > 8) {
            return INVALID;
        }
        int before = state.chairs.get(place).tone;
        state.chairs.get(place).tone = tone;
        return before;
    }

    private static int train(State state, int player, int stride, int ear) {
        if (lacksPlayer(state, player) || stride < 0 || stride > 9 || ear < 0 || ear > 511) {
            return INVALID;
        }
        int before = state.players.get(player).ear;
        state.players.get(player).stride = stride;
        state.players.get(player).ear = ear;
        return before;
    }

    private static int start(State state) {
        List<Player> walkers = state.inPlay();
        if (state.phase != 0 || state.chairs.isEmpty() || walkers.size() <= state.chairs.size()) {
            return IMPOSSIBLE;
        }
        state.phase = 1;
        for (int i = 0; i < walkers.size(); i++) {
            walkers.get(i).place = i % state.chairs.size();
        }
        for (Chair chair : state.chairs) {
            chair.sitter = null;
        }
        return walkers.size();
    }

    private static int beat(State state, int beats) {
        if (beats < 1 || beats > 99) {
            return INVALID;
        }
        if (state.phase != 1) {
            return IMPOSSIBLE;
        }
        if (state.beats + beats > 999) {
            return LIMIT;
        }
        for (int i = 0; i < beats; i++) {
            for (Player player : state.inPlay()) {
                player.place = (player.place + player.stride) % state.chairs.size();
                player.steps += player.stride;
                state.steps += player.stride;
            }
        }
        state.beats += beats;
        return state.beats;
    }

    private static int stop(State state) {
        if (state.phase != 1) {
            return IMPOSSIBLE;
        }
        Fate fate = fate(state, 0);
        state.rounds++;
        state.outsByRounds += state.inPlay().size() - state.chairs.size();
        state.ticks += fate.lastTick;
        state.beats = 0;
        for (Player player : state.inPlay()) {
            player.bumps += fate.bumps.get(player.number);
            state.bumps += fate.bumps.get(player.number);
            player.tick = fate.ticks.get(player.number);
            if (fate.outs.contains(player.number)) {
                player.out = true;
                player.outRound = state.rounds;
            } else {
                player.sat++;
                state.sat++;
                Chair chair = state.chairs.get(fate.seats.get(player.number));
                chair.used++;
                chair.sitter = player.number;
            }
        }
        for (int[] ring : fate.rings) {
            int tone = state.chairs.get(ring[1]).tone;
            state.rings.add(new int[] {state.rounds, ring[0], ring[1], tone, ring[2]});
        }
        if (state.inPlay().size() <= 1) {
            state.phase = 2;
        } else {
            state.phase = 0;
            takeChairs(state);
        }
        return bits(fate.outs);
    }

    private static void takeChairs(State state) {
        while (state.chairs.size() > 1
                && state.chairs.size() > state.inPlay().size() - state.setting) {
            List<Integer> uses = new ArrayList<>();
            for (Chair chair : state.chairs) {
                uses.add(chair.used);
            }
            int worn = uses.lastIndexOf(Collections.max(uses));
            state.chairs.remove(worn);
            state.taken++;
        }
    }

    private static int set(State state, int what, int value) {
        if (what != 0 || value < 1 || value > 3) {
            return INVALID;
        }
        int before = state.setting;
        state.setting = value;
        return before;
    }

    int chair(int tone) {
        return tried('c', tone, 0, 0);
    }

    int player(int stride, int ear) {
        return tried('p', stride, ear, 0);
    }

    int tune(int place, int tone) {
        return tried('t', place, tone, 0);
    }

    int train(int player, int stride, int ear) {
        return tried('r', player, stride, ear);
    }

    int start() {
        return tried('g', 0, 0, 0);
    }

    int beat(int beats) {
        return tried('b', beats, 0, 0);
    }

    int stop() {
        return tried('s', 0, 0, 0);
    }

    int set(int what, int value) {
        return tried('f', what, value, 0);
    }

    int chairOf(int place, int what) {
        if (lacksChair(now, place) || what < 0 || what > 2) {
            return INVALID;
        }
        Chair chair = now.chairs.get(place);
        Integer[] all = {chair.tone, chair.used, chair.sitter};
        return all[what] == null ? MISSING : all[what];
    }

    int playerOf(int player, int what) {
        if (lacksPlayer(now, player) || what < 0 || what > 8) {
            return INVALID;
        }
        Player one = now.players.get(player);
        Integer place = now.phase == 1 && !one.out ? Integer.valueOf(one.place) : null;
        Integer[] all = {one.stride, one.ear, one.out ? 0 : 1, place, one.sat, one.bumps,
            one.steps, one.outRound, one.tick};
        return all[what] == null ? MISSING : all[what];
    }

    int hears(int player, int place) {
        if (lacksPlayer(now, player) || lacksChair(now, place)) {
            return INVALID;
        }
        return hearing(now, player, place) ? 1 : 0;
    }

    int bell(int ago, int what) {
        if (ago < 0 || what < 0 || what > 4) {
            return INVALID;
        }
        int kept = Math.min(12, now.rings.size());
        return ago >= kept ? MISSING : now.rings.get(now.rings.size() - 1 - ago)[what];
    }

    private boolean walks(int player) {
        return now.phase == 1 && !now.players.get(player).out;
    }

    int ifStopped(int player, int what) {
        if (lacksPlayer(now, player) || what < 0 || what > 2) {
            return INVALID;
        }
        if (!walks(player)) {
            return IMPOSSIBLE;
        }
        Fate fate = fate(now, 0);
        if (what == 0) {
            return fate.seats.getOrDefault(player, MISSING);
        }
        return what == 1 ? fate.bumps.get(player) : fate.ticks.get(player);
    }

    int outs() {
        return now.phase != 1 ? IMPOSSIBLE : bits(fate(now, 0).outs);
    }

    int safeIn(int player) {
        if (lacksPlayer(now, player)) {
            return INVALID;
        }
        if (!walks(player)) {
            return IMPOSSIBLE;
        }
        for (int beats = 0; beats < 25; beats++) {
            if (fate(now, beats).seats.containsKey(player)) {
                return beats;
            }
        }
        return MISSING;
    }

    int mean() {
        if (now.players.isEmpty()) {
            return MISSING;
        }
        return Float.floatToIntBits((float) now.bumps / (float) now.players.size());
    }

    int count(int what) {
        List<Player> inPlay = now.inPlay();
        Set<Integer> numbers = new HashSet<>();
        for (Player player : inPlay) {
            numbers.add(player.number);
        }
        int only = inPlay.size() == 1 ? inPlay.get(0).number : MISSING;
        int[] all = {now.phase, now.chairs.size(), now.players.size(), bits(numbers), now.rounds,
            now.beats, now.sat, now.bumps, now.players.size() - inPlay.size(), now.outsByRounds,
            now.steps, now.ticks, only, Math.min(12, now.rings.size()), past.size(),
            text.length(), now.taken, INVALID, INVALID, INVALID, now.setting};
        return what < 0 || what >= all.length ? INVALID : all[what];
    }

    int undo() {
        if (past.isEmpty()) {
            return IMPOSSIBLE;
        }
        now = past.removeLast();
        return past.size();
    }

    int type(int character) {
        if (character < 32 || character > 126) {
            return INVALID;
        }
        if (text.length() == 60) {
            return LIMIT;
        }
        text += (char) character;
        return text.length();
    }

    int clearText() {
        int length = text.length();
        text = "";
        return length;
    }

    /** Does the orders on a state: position, reason and cause of the fault, or how many there are. */
    private int[] runText(State state) {
        int position = 0;
        int orders = 0;
        while (position < text.length()) {
            String rest = text.substring(position);
            Matcher order = ORDER.matcher(rest);
            int good = 0;
            while (good < rest.length() && BEGUN.matcher(rest.substring(0, good + 1)).matches()) {
                good++;
                if (rest.charAt(good - 1) == ';') {
                    break;
                }
            }
            if (good == 0 || rest.charAt(good - 1) != ';') {
                return new int[] {position, 1, good};
            }
            if (!order.lookingAt()) {
                throw new IllegalStateException(rest);
            }
            int first = order.group(2) == null ? 0 : Integer.parseInt(order.group(2));
            int second = order.group(3) == null ? 0 : Integer.parseInt(order.group(3));
            int answer = change(state, order.group(1).charAt(0), first, second, 0);
            if (answer < 0) {
                return new int[] {position, 2, answer};
            }
            orders++;
            position += good;
        }
        return new int[] {orders};
    }

    int fault(int what) {
        if (what < 0 || what > 2) {
            return INVALID;
        }
        int[] told = runText(now.copy());
        return told.length == 1 ? MISSING : told[what];
    }

    int play() {
        State after = now.copy();
        int[] told = runText(after);
        return told.length == 1 ? changed(after, told[0]) : IMPOSSIBLE;
    }
}
