/**
 * Musical chairs in the dark with a bell under each seat.
 *
 * <p>Every row is made once, in a constructor: no call makes an object.
 */
public final class BellChairs {
    public static final int INVALID_ARGUMENT = -1000001;
    public static final int NOT_POSSIBLE = -1000002;
    public static final int LIMIT_REACHED = -1000003;
    public static final int NOT_FOUND = -1000004;

    private static final int MOST_CHAIRS = 16;
    private static final int MOST_PLAYERS = 12;
    private static final int MOST_TONE = 8;
    private static final int MOST_STRIDE = 9;
    private static final int MOST_EAR = 511;
    private static final int MOST_BEATS_AT_ONCE = 99;
    private static final int MOST_BEATS = 999;
    private static final int MOST_BEATS_AHEAD = 24;
    private static final int MOST_FEWER = 3;
    private static final int MOST_RINGS = 12;
    private static final int MOST_STATES = 4;
    private static final int MOST_SIGNS = 60;
    private static final int MOST_DIGITS = 3;

    private static final int PREPARED = 0;
    private static final int MUSIC = 1;
    private static final int OVER = 2;

    private static final int NONE = -1;

    private final Game game;
    private final History history;
    private final Grope grope;
    private final Text text;
    private final Orders orders;

    public BellChairs() {
        game = new Game();
        history = new History();
        grope = new Grope();
        text = new Text();
        orders = new Orders();
    }

    // ---- chairs, players

    public int chair(int tone) {
        history.prepare(game);
        return history.settle(game.addChair(tone));
    }

    public int player(int stride, int ear) {
        history.prepare(game);
        return history.settle(game.addPlayer(stride, ear));
    }

    public int tune(int place, int tone) {
        history.prepare(game);
        return history.settle(game.retune(place, tone));
    }

    public int train(int player, int stride, int ear) {
        history.prepare(game);
        return history.settle(game.retrain(player, stride, ear));
    }

    // ---- the game

    public int start() {
        history.prepare(game);
        return history.settle(game.startMusic());
    }

    public int beat(int beats) {
        history.prepare(game);
        return history.settle(game.walk(beats));
    }

    public int stop() {
        history.prepare(game);
        return history.settle(game.stopMusic(grope));
    }

    public int set(int what, int value) {
        history.prepare(game);
        return history.settle(game.choose(what, value));
    }

    // ---- what there is

    public int chairOf(int place, int what) {
        Chairs chairs = game.chairs;
        if (!chairs.has(place)) {
            return INVALID_ARGUMENT;
        }
        switch (what) {
            case 0:
                return chairs.tone[place];
            case 1:
                return chairs.sittings[place];
            case 2:
                return foundOrNot(chairs.sitter[place] != NONE, chairs.sitter[place]);
            default:
                return INVALID_ARGUMENT;
        }
    }

    public int playerOf(int player, int what) {
        Players players = game.players;
        if (!players.has(player)) {
            return INVALID_ARGUMENT;
        }
        boolean playing = players.isPlaying(player);
        switch (what) {
            case 0:
                return players.stride[player];
            case 1:
                return players.ear[player];
            case 2:
                return playing ? 1 : 0;
            case 3:
                return foundOrNot(game.phase == MUSIC && playing, players.place[player]);
            case 4:
                return players.sittings[player];
            case 5:
                return players.bumps[player];
            case 6:
                return players.steps[player];
            case 7:
                return foundOrNot(!playing, players.outRound[player]);
            case 8:
                return foundOrNot(players.lastTick[player] > 0, players.lastTick[player]);
            default:
                return INVALID_ARGUMENT;
        }
    }

    public int hears(int player, int place) {
        if (!game.players.has(player) || !game.chairs.has(place)) {
            return INVALID_ARGUMENT;
        }
        return game.players.hearsTone(player, game.chairs.tone[place]) ? 1 : 0;
    }

    public int bell(int ago, int what) {
        if (ago < 0 || what < 0 || what > 4) {
            return INVALID_ARGUMENT;
        }
        Bells bells = game.bells;
        if (ago >= bells.kept) {
            return NOT_FOUND;
        }
        int row = bells.rowOf(ago);
        switch (what) {
            case 0:
                return bells.round[row];
            case 1:
                return bells.tick[row];
            case 2:
                return bells.place[row];
            case 3:
                return bells.tone[row];
            default:
                return bells.player[row];
        }
    }

    // ---- what would be

    public int ifStopped(int player, int what) {
        if (!game.players.has(player) || what < 0 || what > 2) {
            return INVALID_ARGUMENT;
        }
        if (game.phase != MUSIC || !game.players.isPlaying(player)) {
            return NOT_POSSIBLE;
        }
        grope.follow(game.chairs, game.players, 0);
        switch (what) {
            case 0:
                return foundOrNot(grope.seat[player] != NONE, grope.seat[player]);
            case 1:
                return grope.bumps[player];
            default:
                return grope.tick[player];
        }
    }

    public int outs() {
        if (game.phase != MUSIC) {
            return NOT_POSSIBLE;
        }
        grope.follow(game.chairs, game.players, 0);
        return grope.out;
    }

    public int safeIn(int player) {
        if (!game.players.has(player)) {
            return INVALID_ARGUMENT;
        }
        if (game.phase != MUSIC || !game.players.isPlaying(player)) {
            return NOT_POSSIBLE;
        }
        for (int beats = 0; beats <= MOST_BEATS_AHEAD; beats++) {
            grope.follow(game.chairs, game.players, beats);
            if (grope.seat[player] != NONE) {
                return beats;
            }
        }
        return NOT_FOUND;
    }

    public int mean() {
        int players = game.players.size;
        if (players < 1) {
            return NOT_FOUND;
        }
        return bitsOf((float) game.players.allBumps() / (float) players);
    }

    public int count(int what) {
        switch (what) {
            case 0:
                return game.phase;
            case 1:
                return game.chairs.size;
            case 2:
                return game.players.size;
            case 3:
                return game.players.playing;
            case 4:
                return game.rounds;
            case 5:
                return game.beats;
            case 6:
                return game.players.allSittings();
            case 7:
                return game.players.allBumps();
            case 8:
                return game.players.size - game.players.howManyPlay();
            case 9:
                return game.outByRounds;
            case 10:
                return game.players.allSteps();
            case 11:
                return game.ticks;
            case 12:
                return game.players.howManyPlay() == 1 ? game.players.firstPlaying() : NOT_FOUND;
            default:
                return countBesidesTheGame(what);
        }
    }

    public int undo() {
        return history.goBack(game);
    }

    // ---- texts

    public int type(int character) {
        return text.append(character);
    }

    public int clearText() {
        return text.clear();
    }

    public int fault(int what) {
        if (what < 0 || what > 2) {
            return INVALID_ARGUMENT;
        }
        orders.rehearse(text, game, grope);
        if (orders.reason == Orders.NO_FAULT) {
            return NOT_FOUND;
        }
        switch (what) {
            case 0:
                return orders.position;
            case 1:
                return orders.reason;
            default:
                return orders.cause;
        }
    }

    public int play() {
        orders.rehearse(text, game, grope);
        if (orders.reason != Orders.NO_FAULT) {
            return NOT_POSSIBLE;
        }
        history.prepare(game);
        game.copyFrom(orders.trial);
        return history.settle(orders.done);
    }

    private int countBesidesTheGame(int what) {
        switch (what) {
            case 13:
                return game.bells.kept;
            case 14:
                return history.kept;
            case 15:
                return text.length;
            case 16:
                return game.taken;
            case 20:
                return game.fewer;
            default:
                return INVALID_ARGUMENT;
        }
    }

    private static int foundOrNot(boolean found, int value) {
        return found ? value : NOT_FOUND;
    }

    private static boolean isWithin(int value, int least, int most) {
        return value >= least && value <= most;
    }

    /** By hand, as the language's rules leave out the library's own way; each step is exact. */
    private static int bitsOf(float value) {
        if (!(value > 0f)) {
            return 0;
        }
        float part = value;
        int exponent = 127;
        for (int i = 0; i < 127 && part >= 2f; i++) {
            part = part / 2f;
            exponent++;
        }
        for (int i = 0; i < 126 && part < 1f; i++) {
            part = part * 2f;
            exponent--;
        }
        return (exponent << 23) + (int) ((part - 1f) * 8388608f);
    }

    /** The ring of chairs, by their places. */
    private static final class Chairs {
        private final int[] tone = new int[MOST_CHAIRS];
        private final int[] sittings = new int[MOST_CHAIRS];
        private final int[] sitter = new int[MOST_CHAIRS];
        private int size;

        void copyFrom(Chairs other) {
            System.arraycopy(other.tone, 0, tone, 0, MOST_CHAIRS);
            System.arraycopy(other.sittings, 0, sittings, 0, MOST_CHAIRS);
            System.arraycopy(other.sitter, 0, sitter, 0, MOST_CHAIRS);
            size = other.size;
        }

        boolean has(int place) {
            return place >= 0 && place < size;
        }

        int add(int newTone) {
            if (size >= MOST_CHAIRS) {
                return LIMIT_REACHED;
            }
            tone[size] = newTone;
            sittings[size] = 0;
            sitter[size] = NONE;
            size++;
            return size - 1;
        }

        /** The place that lies some steps on from another one. */
        int onFrom(int place, int steps) {
            return size < 1 ? 0 : (place + steps) % size;
        }

        void forgetSitters() {
            for (int place = 0; place < size; place++) {
                sitter[place] = NONE;
            }
        }

        void seat(int place, int player) {
            sitter[place] = player;
            sittings[place]++;
        }

        int leaveOnly(int most) {
            int taken = 0;
            for (int i = 0; i < MOST_CHAIRS && size > most; i++) {
                takeAway(mostWorn());
                taken++;
            }
            return taken;
        }

        private int mostWorn() {
            int worn = 0;
            for (int place = 1; place < size; place++) {
                if (sittings[place] >= sittings[worn]) {
                    worn = place;
                }
            }
            return worn;
        }

        private void takeAway(int gone) {
            for (int place = gone; place < size - 1; place++) {
                tone[place] = tone[place + 1];
                sittings[place] = sittings[place + 1];
                sitter[place] = sitter[place + 1];
            }
            size--;
        }
    }

    /** The players, by their numbers; those who are out stay among them. */
    private static final class Players {
        private final int[] stride = new int[MOST_PLAYERS];
        private final int[] ear = new int[MOST_PLAYERS];
        private final int[] place = new int[MOST_PLAYERS];
        private final int[] sittings = new int[MOST_PLAYERS];
        private final int[] bumps = new int[MOST_PLAYERS];
        private final int[] steps = new int[MOST_PLAYERS];
        /** It counts for those who are out. */
        private final int[] outRound = new int[MOST_PLAYERS];
        /** 0 for one who was in no round that is over. */
        private final int[] lastTick = new int[MOST_PLAYERS];
        /** Those in play, as a set. */
        private int playing;
        private int size;

        void copyFrom(Players other) {
            System.arraycopy(other.stride, 0, stride, 0, MOST_PLAYERS);
            System.arraycopy(other.ear, 0, ear, 0, MOST_PLAYERS);
            System.arraycopy(other.place, 0, place, 0, MOST_PLAYERS);
            System.arraycopy(other.sittings, 0, sittings, 0, MOST_PLAYERS);
            System.arraycopy(other.bumps, 0, bumps, 0, MOST_PLAYERS);
            System.arraycopy(other.steps, 0, steps, 0, MOST_PLAYERS);
            System.arraycopy(other.outRound, 0, outRound, 0, MOST_PLAYERS);
            System.arraycopy(other.lastTick, 0, lastTick, 0, MOST_PLAYERS);
            playing = other.playing;
            size = other.size;
        }

        boolean has(int player) {
            return player >= 0 && player < size;
        }

        boolean isPlaying(int player) {
            return (playing >> player & 1) == 1;
        }

        boolean hearsTone(int player, int tone) {
            return (ear[player] >> tone & 1) == 1;
        }

        int add(int newStride, int newEar) {
            if (size >= MOST_PLAYERS) {
                return LIMIT_REACHED;
            }
            stride[size] = newStride;
            ear[size] = newEar;
            place[size] = 0;
            sittings[size] = 0;
            bumps[size] = 0;
            steps[size] = 0;
            outRound[size] = 0;
            lastTick[size] = 0;
            playing |= 1 << size;
            size++;
            return size - 1;
        }

        void lineUp(Chairs chairs) {
            int ahead = 0;
            for (int player = 0; player < size; player++) {
                if (isPlaying(player)) {
                    place[player] = chairs.onFrom(0, ahead);
                    ahead++;
                }
            }
        }

        void walk(Chairs chairs, int beats) {
            for (int player = 0; player < size; player++) {
                if (isPlaying(player)) {
                    int way = stride[player] * beats;
                    place[player] = chairs.onFrom(place[player], way);
                    steps[player] += way;
                }
            }
        }

        void leave(int player, int round) {
            playing &= ~(1 << player);
            outRound[player] = round;
        }

        int howManyPlay() {
            return Integer.bitCount(playing);
        }

        int firstPlaying() {
            for (int player = 0; player < size; player++) {
                if (isPlaying(player)) {
                    return player;
                }
            }
            return NOT_FOUND;
        }

        int allSittings() {
            return sum(sittings);
        }

        int allBumps() {
            return sum(bumps);
        }

        int allSteps() {
            return sum(steps);
        }

        private int sum(int[] row) {
            int sum = 0;
            for (int player = 0; player < size; player++) {
                sum += row[player];
            }
            return sum;
        }
    }

    /** The latest rings of the bells; the rows are used round and round. */
    private static final class Bells {
        private final int[] round = new int[MOST_RINGS];
        private final int[] tick = new int[MOST_RINGS];
        private final int[] place = new int[MOST_RINGS];
        private final int[] tone = new int[MOST_RINGS];
        private final int[] player = new int[MOST_RINGS];
        private int next;
        private int kept;

        void copyFrom(Bells other) {
            System.arraycopy(other.round, 0, round, 0, MOST_RINGS);
            System.arraycopy(other.tick, 0, tick, 0, MOST_RINGS);
            System.arraycopy(other.place, 0, place, 0, MOST_RINGS);
            System.arraycopy(other.tone, 0, tone, 0, MOST_RINGS);
            System.arraycopy(other.player, 0, player, 0, MOST_RINGS);
            next = other.next;
            kept = other.kept;
        }

        void ring(int ofRound, int ofTick, int ofPlace, int ofTone, int ofPlayer) {
            round[next] = ofRound;
            tick[next] = ofTick;
            place[next] = ofPlace;
            tone[next] = ofTone;
            player[next] = ofPlayer;
            next = (next + 1) % MOST_RINGS;
            kept = Math.min(kept + 1, MOST_RINGS);
        }

        /** The caller has looked that 0 <= ago < kept. */
        int rowOf(int ago) {
            return (next + MOST_RINGS - 1 - ago) % MOST_RINGS;
        }
    }

    /** All that a change may touch, and that undo restores. */
    private static final class Game {
        private final Chairs chairs = new Chairs();
        private final Players players = new Players();
        private final Bells bells = new Bells();
        private int phase = PREPARED;
        private int fewer = 1;
        private int rounds;
        private int beats;
        private int ticks;
        private int taken;
        private int outByRounds;

        void copyFrom(Game other) {
            chairs.copyFrom(other.chairs);
            players.copyFrom(other.players);
            bells.copyFrom(other.bells);
            phase = other.phase;
            fewer = other.fewer;
            rounds = other.rounds;
            beats = other.beats;
            ticks = other.ticks;
            taken = other.taken;
            outByRounds = other.outByRounds;
        }

        int addChair(int tone) {
            if (!isWithin(tone, 0, MOST_TONE)) {
                return INVALID_ARGUMENT;
            }
            return phase == PREPARED ? chairs.add(tone) : NOT_POSSIBLE;
        }

        int addPlayer(int stride, int ear) {
            if (!isWithin(stride, 0, MOST_STRIDE) || !isWithin(ear, 0, MOST_EAR)) {
                return INVALID_ARGUMENT;
            }
            return phase == PREPARED ? players.add(stride, ear) : NOT_POSSIBLE;
        }

        int retune(int place, int tone) {
            if (!chairs.has(place) || !isWithin(tone, 0, MOST_TONE)) {
                return INVALID_ARGUMENT;
            }
            int before = chairs.tone[place];
            chairs.tone[place] = tone;
            return before;
        }

        int retrain(int player, int stride, int ear) {
            if (!players.has(player) || !isWithin(stride, 0, MOST_STRIDE)
                    || !isWithin(ear, 0, MOST_EAR)) {
                return INVALID_ARGUMENT;
            }
            int before = players.ear[player];
            players.stride[player] = stride;
            players.ear[player] = ear;
            return before;
        }

        int startMusic() {
            int playing = players.howManyPlay();
            if (phase != PREPARED || chairs.size < 1 || playing <= chairs.size) {
                return NOT_POSSIBLE;
            }
            phase = MUSIC;
            chairs.forgetSitters();
            players.lineUp(chairs);
            return playing;
        }

        int walk(int more) {
            if (!isWithin(more, 1, MOST_BEATS_AT_ONCE)) {
                return INVALID_ARGUMENT;
            }
            if (phase != MUSIC) {
                return NOT_POSSIBLE;
            }
            if (beats + more > MOST_BEATS) {
                return LIMIT_REACHED;
            }
            beats += more;
            players.walk(chairs, more);
            return beats;
        }

        int stopMusic(Grope grope) {
            if (phase != MUSIC) {
                return NOT_POSSIBLE;
            }
            grope.follow(chairs, players, 0);
            rounds++;
            beats = 0;
            ticks += grope.ticks;
            outByRounds += players.howManyPlay() - chairs.size;
            settlePlayers(grope);
            settleChairs(grope);
            goOn();
            return grope.out;
        }

        int choose(int what, int value) {
            if (what != 0 || !isWithin(value, 1, MOST_FEWER)) {
                return INVALID_ARGUMENT;
            }
            int before = fewer;
            fewer = value;
            return before;
        }

        /** Does one order of a text. */
        int perform(int kind, int first, int second, Grope grope) {
            switch (kind) {
                case 'c':
                    return addChair(first);
                case 'p':
                    return addPlayer(first, second);
                case 'b':
                    return walk(first);
                case 'g':
                    return startMusic();
                default:
                    return stopMusic(grope);
            }
        }

        private void settlePlayers(Grope grope) {
            for (int player = 0; player < players.size; player++) {
                if (players.isPlaying(player)) {
                    players.bumps[player] += grope.bumps[player];
                    players.lastTick[player] = grope.tick[player];
                    if (grope.seat[player] == NONE) {
                        players.leave(player, rounds);
                    } else {
                        players.sittings[player]++;
                    }
                }
            }
        }

        /** Tick by tick, as the bells are kept in the order in which they rang. */
        private void settleChairs(Grope grope) {
            for (int tick = 1; tick <= grope.ticks; tick++) {
                for (int place = 0; place < chairs.size; place++) {
                    if (grope.sitTick[place] == tick) {
                        int player = grope.sitter[place];
                        chairs.seat(place, player);
                        bells.ring(rounds, tick, place, chairs.tone[place], player);
                    }
                }
            }
        }

        private void goOn() {
            int playing = players.howManyPlay();
            if (playing <= 1) {
                phase = OVER;
                return;
            }
            phase = PREPARED;
            taken += chairs.leaveOnly(Math.max(playing - fewer, 1));
        }
    }

    /** What comes to pass from when the music stops until each one sits or is out. */
    private static final class Grope {
        private final int[] place = new int[MOST_PLAYERS];
        /** The chairs that a player knows to be taken, as a set. */
        private final int[] known = new int[MOST_PLAYERS];
        private final int[] aim = new int[MOST_PLAYERS];
        /** How many places the chair aimed at is on from the player's own. */
        private final int[] far = new int[MOST_PLAYERS];
        private final int[] seat = new int[MOST_PLAYERS];
        private final int[] bumps = new int[MOST_PLAYERS];
        private final int[] tick = new int[MOST_PLAYERS];
        private final int[] sitter = new int[MOST_CHAIRS];
        private final int[] sitTick = new int[MOST_CHAIRS];
        /** Those in play who neither sit nor are out, as a set. */
        private int groping;
        private int out;
        private int ticks;

        void follow(Chairs chairs, Players players, int beats) {
            begin(chairs, players, beats);
            // With each tick one who gropes sits, is out, or knows of one chair more.
            for (int now = 1; now <= MOST_CHAIRS + 1 && groping != 0; now++) {
                ticks = now;
                sendOut(chairs, players);
                takeAim(chairs, players);
                sitDown(chairs, players);
                bump(players);
                ring(chairs, players);
            }
        }

        private void begin(Chairs chairs, Players players, int beats) {
            ticks = 0;
            out = 0;
            groping = players.playing;
            for (int player = 0; player < players.size; player++) {
                place[player] = chairs.onFrom(players.place[player], players.stride[player] * beats);
                known[player] = 0;
                seat[player] = NONE;
                bumps[player] = 0;
                tick[player] = 0;
            }
            for (int chair = 0; chair < chairs.size; chair++) {
                sitter[chair] = NONE;
                sitTick[chair] = 0;
            }
        }

        private boolean gropes(int player) {
            return (groping >> player & 1) == 1;
        }

        private void sendOut(Chairs chairs, Players players) {
            int all = (1 << chairs.size) - 1;
            for (int player = 0; player < players.size; player++) {
                if (gropes(player) && known[player] == all) {
                    out |= 1 << player;
                    settle(player);
                }
            }
        }

        private void takeAim(Chairs chairs, Players players) {
            for (int player = 0; player < players.size; player++) {
                aim[player] = NONE;
                far[player] = 0;
                for (int on = 0; on < chairs.size && gropes(player) && aim[player] == NONE; on++) {
                    int chair = chairs.onFrom(place[player], on);
                    if ((known[player] >> chair & 1) == 0) {
                        aim[player] = chair;
                        far[player] = on;
                    }
                }
            }
        }

        private void sitDown(Chairs chairs, Players players) {
            for (int chair = 0; chair < chairs.size; chair++) {
                int nearest = sitter[chair] == NONE ? nearest(players, chair) : NONE;
                if (nearest != NONE) {
                    sitter[chair] = nearest;
                    sitTick[chair] = ticks;
                    seat[nearest] = chair;
                    aim[nearest] = NONE;
                    settle(nearest);
                }
            }
        }

        private int nearest(Players players, int chair) {
            int nearest = NONE;
            for (int player = 0; player < players.size; player++) {
                if (aim[player] == chair && (nearest == NONE || far[player] < far[nearest])) {
                    nearest = player;
                }
            }
            return nearest;
        }

        /** Whoever still aims has found the chair taken. */
        private void bump(Players players) {
            for (int player = 0; player < players.size; player++) {
                int chair = aim[player];
                if (chair != NONE) {
                    known[player] |= 1 << chair;
                    place[player] = chair;
                    bumps[player]++;
                }
            }
        }

        private void ring(Chairs chairs, Players players) {
            for (int player = 0; player < players.size; player++) {
                for (int chair = 0; chair < chairs.size; chair++) {
                    if (sitTick[chair] == ticks && players.hearsTone(player, chairs.tone[chair])) {
                        known[player] |= 1 << chair;
                    }
                }
            }
        }

        private void settle(int player) {
            groping &= ~(1 << player);
            tick[player] = ticks;
        }
    }

    /** The states before the latest changes; the rows are used round and round. */
    private static final class History {
        /** One more than are kept: the state before a change that may yet turn out an error. */
        private static final int ROWS = MOST_STATES + 1;

        private final Game[] states = new Game[ROWS];
        private int next;
        private int kept;

        History() {
            for (int i = 0; i < ROWS; i++) {
                states[i] = new Game();
            }
        }

        void prepare(Game game) {
            states[next].copyFrom(game);
        }

        /** Keeps the prepared state if the change has succeeded; passes on its answer. */
        int settle(int answer) {
            if (answer >= 0) {
                next = (next + 1) % ROWS;
                kept = Math.min(kept + 1, MOST_STATES);
            }
            return answer;
        }

        int goBack(Game game) {
            if (kept < 1) {
                return NOT_POSSIBLE;
            }
            next = (next + ROWS - 1) % ROWS;
            kept--;
            game.copyFrom(states[next]);
            return kept;
        }
    }

    /** The characters that were typed. */
    private static final class Text {
        private static final int END = -1;

        private final int[] signs = new int[MOST_SIGNS];
        private int length;

        int append(int sign) {
            if (!isWithin(sign, 32, 126)) {
                return INVALID_ARGUMENT;
            }
            if (length >= MOST_SIGNS) {
                return LIMIT_REACHED;
            }
            signs[length] = sign;
            length++;
            return length;
        }

        int clear() {
            int before = length;
            length = 0;
            return before;
        }

        int signAt(int position) {
            return position >= 0 && position < length ? signs[position] : END;
        }
    }

    /** Does the orders of a text on a trial game, up to the first one that is not possible. */
    private static final class Orders {
        private static final int NO_FAULT = 0;
        private static final int BAD_FORM = 1;
        private static final int REFUSED = 2;

        private final Game trial = new Game();
        private int done;
        private int position;
        private int reason;
        private int cause;
        /** The next character to be read. */
        private int at;
        private int kind;
        private int first;
        private int second;

        void rehearse(Text text, Game game, Grope grope) {
            trial.copyFrom(game);
            done = 0;
            at = 0;
            reason = NO_FAULT;
            for (int i = 0; i < MOST_SIGNS && at < text.length && reason == NO_FAULT; i++) {
                position = at;
                if (!readOrder(text)) {
                    reason = BAD_FORM;
                    cause = at - position;
                } else {
                    judge(trial.perform(kind, first, second, grope));
                }
            }
        }

        private void judge(int answer) {
            if (answer < 0) {
                reason = REFUSED;
                cause = answer;
            } else {
                done++;
            }
        }

        /** If it answers false, the order breaks off at the next character to be read. */
        private boolean readOrder(Text text) {
            kind = text.signAt(at);
            first = 0;
            second = 0;
            switch (kind) {
                case 'c':
                case 'b':
                    at++;
                    first = readNumber(text);
                    return first != NONE && passes(text, ';');
                case 'p':
                    at++;
                    first = readNumber(text);
                    if (first == NONE || !passes(text, ',')) {
                        return false;
                    }
                    second = readNumber(text);
                    return second != NONE && passes(text, ';');
                case 'g':
                case 's':
                    at++;
                    return passes(text, ';');
                default:
                    return false;
            }
        }

        private boolean passes(Text text, int sign) {
            if (text.signAt(at) != sign) {
                return false;
            }
            at++;
            return true;
        }

        private int readNumber(Text text) {
            int number = NONE;
            for (int digits = 0; digits < MOST_DIGITS; digits++) {
                int sign = text.signAt(at);
                if (!isWithin(sign, '0', '9')) {
                    return number;
                }
                number = Math.max(number, 0) * 10 + sign - '0';
                at++;
            }
            return number;
        }
    }
}
