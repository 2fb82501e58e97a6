/**
 * A link between two ends that starts itself, lends credits and starts anew after errors, with a
 * memory behind end 1 that is read and written by packets sent from end 0.
 */
public final class MemoryLink {
    public static final int BAD = -1;
    public static final int FULL = -2;
    public static final int NONE = -3;

    private static final int PACKET_END = 256;
    private static final int PACKET_BREAK = 257;
    private static final int CREDIT = 258;
    private static final int IDLE = 259;
    private static final int FIRST_TIME = 260;
    private static final int TIMES = 64;

    private static final int RESET = 0;
    private static final int WAIT = 1;
    private static final int READY = 2;
    private static final int STARTED = 3;
    private static final int CONNECTING = 4;
    private static final int RUN = 5;

    private static final int RESET_TICKS = 6;
    private static final int PATIENCE_TICKS = 12;
    private static final int SILENCE_LIMIT = 2;

    private static final int OUT_PLACES = 64;
    private static final int IN_PLACES = 25;
    private static final int LENT_AT_ONCE = 8;
    private static final int LENT_AT_MOST = 24;
    private static final int RUN_LIMIT = 200;

    private static final int TARGET_ADDRESS = 254;
    private static final int REPLY_ADDRESS = 67;
    private static final int PROTOCOL = 1;
    private static final int TARGET_KEY = 32;
    private static final int HEAD_BYTES = 8;
    private static final int DATA_START = 9;
    private static final int PACKET_PLACES = 40;
    private static final int ANSWER_PLACES = 16;
    private static final int MEMORY_BYTES = 32;
    private static final int MAX_COMMAND_LENGTH = 24;
    private static final int MAX_TARGET_LENGTH = 16;
    private static final int MAX_CHANGE_LENGTH = 8;

    private static final int COMMAND_BIT = 64;
    private static final int FORBIDDEN_BITS = 128 + 2 + 1;
    private static final int WRITE_BIT = 32;
    private static final int VERIFY_BIT = 16;
    private static final int REPLY_BIT = 8;
    private static final int STEP_BIT = 4;

    private static final int SPOIL_HEAD_CHECK = 1;
    private static final int SPOIL_DATA_CHECK = 2;
    private static final int SPOIL_BY_OMISSION = 4;
    private static final int SPOIL_BY_EXCESS = 8;
    private static final int SPOIL_BY_BREAK = 16;
    private static final int SPOIL_ALL = 31;

    private static final int STATUS_GOOD = 0;
    private static final int STATUS_UNKNOWN = 2;
    private static final int STATUS_KEY = 3;
    private static final int STATUS_DATA_CHECK = 4;
    private static final int STATUS_TOO_FEW = 5;
    private static final int STATUS_TOO_MANY = 6;
    private static final int STATUS_ADDRESS = 10;
    private static final int STATUS_LENGTH = 11;

    private final End near;
    private final End far;
    private final boolean targetOn;
    private final Target memoryTarget;
    private final Packet draft;

    public MemoryLink(int target) {
        near = new End();
        far = new End();
        targetOn = target != 0;
        memoryTarget = new Target();
        draft = new Packet(PACKET_PLACES);
    }

    public boolean control(int end, boolean enabled, boolean auto) {
        if (!isEnd(end)) {
            return false;
        }
        endOf(end).allow(enabled, auto);
        return true;
    }

    public int run(int n) {
        if (n < 0 || n > RUN_LIMIT) {
            return BAD;
        }
        for (int i = 0; i < n; i++) {
            tick();
        }
        return near.state + 8 * far.state;
    }

    public int put(int end, int c) {
        if (!isEnd(end) || c < 0 || c > PACKET_BREAK) {
            return BAD;
        }
        Outlet out = endOf(end).out;
        if (out.free() == 0) {
            return FULL;
        }
        out.accept(c);
        return out.size();
    }

    public int command(int instruction, int key, int number, int address, int length, int fill, int spoil) {
        if (!isByte(instruction) || !isByte(key) || !isByte(address) || !isByte(fill)
                || number < 0 || number > 65535 || length < 0 || length > MAX_COMMAND_LENGTH
                || spoil < 0 || spoil > SPOIL_ALL) {
            return BAD;
        }
        draft.clear();
        draftHead(instruction, key, number, address, length, spoil);
        if ((instruction & (WRITE_BIT | VERIFY_BIT)) != 0) {
            draftData(length, fill, spoil);
        }
        draft.add((spoil & SPOIL_BY_BREAK) != 0 ? PACKET_BREAK : PACKET_END);
        Outlet out = near.out;
        if (out.free() < draft.count || out.throwing) {
            return FULL;
        }
        out.acceptAll(draft);
        return out.size();
    }

    public int take(int end) {
        if (!isEnd(end) || (end == 1 && targetOn)) {
            return BAD;
        }
        return endOf(end).in.removeFirst();
    }

    public boolean sendTime(int end, int t) {
        if (!isEnd(end) || t < 0 || t >= TIMES) {
            return false;
        }
        endOf(end).askedTime = t;
        return true;
    }

    public boolean spoil(int end) {
        if (!isEnd(end)) {
            return false;
        }
        endOf(end).spoilNext = true;
        return true;
    }

    public int look(int end, int what) {
        if (!isEnd(end)) {
            return BAD;
        }
        return endOf(end).report(what);
    }

    public int memory(int address) {
        if (address < 0 || address >= MEMORY_BYTES) {
            return BAD;
        }
        return memoryTarget.byteAt(address);
    }

    public int commands() {
        return memoryTarget.commandCount;
    }

    public int status() {
        return memoryTarget.latestStatus;
    }

    private static boolean isEnd(int end) {
        return end == 0 || end == 1;
    }

    private static boolean isByte(int value) {
        return value >= 0 && value <= 255;
    }

    private static boolean isData(int c) {
        return c < PACKET_END;
    }

    private End endOf(int end) {
        return end == 0 ? near : far;
    }

    private void tick() {
        near.arrival(far.sent, far.sentSpoiled);
        far.arrival(near.sent, near.sentSpoiled);
        near.moveOn();
        far.moveOn();
        near.transmit();
        far.transmit();
        if (targetOn) {
            memoryTarget.act(far);
        }
    }

    private void draftHead(int instruction, int key, int number, int address, int length, int spoil) {
        draft.add(TARGET_ADDRESS);
        draft.add(PROTOCOL);
        draft.add(instruction);
        draft.add(key);
        draft.add(number >> 8);
        draft.add(number & 255);
        draft.add(address);
        draft.add(length);
        int check = draft.check(0, HEAD_BYTES);
        draft.add((spoil & SPOIL_HEAD_CHECK) != 0 ? check ^ 1 : check);
    }

    private void draftData(int length, int fill, int spoil) {
        for (int k = 0; k < length; k++) {
            draft.add((fill + k) & 255);
        }
        int check = draft.check(DATA_START, length);
        if ((spoil & SPOIL_BY_OMISSION) == 0) {
            draft.add((spoil & SPOIL_DATA_CHECK) != 0 ? check ^ 1 : check);
        }
        if ((spoil & SPOIL_BY_EXCESS) != 0) {
            draft.add(0);
        }
    }

    /** Characters, first in, first out, in a ring so that no call makes a new array. */
    private static final class Row {
        private final int[] places;
        private int first;
        private int size;

        Row(int length) {
            places = new int[length];
        }

        int free() {
            return places.length - size;
        }

        void append(int c) {
            if (size < places.length) {
                places[wrapped(first + size)] = c;
                size++;
            }
        }

        int removeFirst() {
            if (size == 0) {
                return NONE;
            }
            int c = places[first];
            first = wrapped(first + 1);
            size--;
            return c;
        }

        private int wrapped(int place) {
            return place >= places.length ? place - places.length : place;
        }
    }

    /**
     * The row IN of an end, and whether a packet is open in it. Only in RUN do packet characters come,
     * and a fall from it closes the packet, so that RUN always begins with none open; OUT is alike.
     */
    private static final class Inlet {
        private final Row row;
        private boolean open;

        Inlet() {
            row = new Row(IN_PLACES);
        }

        int size() {
            return row.size;
        }

        void receive(int c) {
            row.append(c);
            open = isData(c);
        }

        int removeFirst() {
            return row.removeFirst();
        }

        void breakOff() {
            if (open) {
                row.append(PACKET_BREAK);
                open = false;
            }
        }
    }

    /** The row OUT of an end, whether a packet is open in it, and whether its rest is thrown away. */
    private static final class Outlet {
        private final Row row;
        private boolean open;
        private boolean throwing;

        Outlet() {
            row = new Row(OUT_PLACES);
        }

        int size() {
            return row.size;
        }

        int free() {
            return row.free();
        }

        void accept(int c) {
            if (throwing) {
                throwing = isData(c);
            } else {
                row.append(c);
            }
        }

        void acceptAll(Packet packet) {
            for (int i = 0; i < packet.count; i++) {
                accept(packet.at(i));
            }
        }

        int removeFirst() {
            int c = row.removeFirst();
            open = isData(c);
            return c;
        }

        void breakOff() {
            if (!open) {
                return;
            }
            open = false;
            throwing = true;
            for (int left = row.size; left > 0 && throwing; left--) {
                throwing = isData(row.removeFirst());
            }
        }
    }

    /** A packet that is collected or composed; what finds no place is counted all the same. */
    private static final class Packet {
        private final int[] places;
        private int count;

        Packet(int length) {
            places = new int[length];
        }

        void clear() {
            count = 0;
        }

        void add(int c) {
            if (count < places.length) {
                places[count] = c;
            }
            count++;
        }

        int at(int i) {
            return i >= 0 && i < count && i < places.length ? places[i] : 0;
        }

        int check(int from, int length) {
            int c = 0;
            for (int k = 0; k < length; k++) {
                c ^= at(from + k);
                for (int bit = 0; bit < 8; bit++) {
                    c = (c & 1) == 1 ? (c >> 1) ^ 224 : c >> 1;
                }
            }
            return c;
        }
    }

    /** One end of the link. */
    private static final class End {
        private final Inlet in;
        private final Outlet out;
        private boolean enabled;
        private boolean auto;
        private boolean heard;
        private boolean fault;
        private boolean runBegan;
        private int state;
        private int clock;
        private int silence;
        private int loan;
        private int owed;
        private int falls;
        private int time;
        private int goodTimes;
        private int askedTime;
        private boolean spoilNext;
        private int sent;
        private boolean sentSpoiled;

        End() {
            in = new Inlet();
            out = new Outlet();
            state = RESET;
            askedTime = NONE;
            sent = NONE;
        }

        void allow(boolean nowEnabled, boolean nowAuto) {
            enabled = nowEnabled;
            auto = nowAuto;
        }

        void arrival(int c, boolean spoiled) {
            fault = false;
            runBegan = false;
            if (state == RESET) {
                return;
            }
            if (c == NONE) {
                noticeSilence();
                return;
            }
            silence = 0;
            if (spoiled) {
                fault = true;
            } else if (c == IDLE) {
                heard = true;
            } else if (c == CREDIT) {
                arriveCredit();
            } else if (c >= FIRST_TIME) {
                arriveTime(c - FIRST_TIME);
            } else {
                arrivePacketCharacter(c);
            }
        }

        private void noticeSilence() {
            if (heard) {
                silence++;
                fault = silence >= SILENCE_LIMIT;
            }
        }

        private void arriveCredit() {
            if (state != CONNECTING && state != RUN) {
                fault = true;
                return;
            }
            loan += LENT_AT_ONCE;
            if (state == CONNECTING) {
                begin(RUN);
                runBegan = true;
            }
        }

        private void arriveTime(int t) {
            if (state != RUN) {
                fault = true;
                return;
            }
            if (t == (time + 1) % TIMES) {
                goodTimes++;
            }
            time = t;
        }

        private void arrivePacketCharacter(int c) {
            if (state != RUN) {
                fault = true;
                return;
            }
            owed--;
            in.receive(c);
        }

        void moveOn() {
            if (fault) {
                fall();
                return;
            }
            if (!runBegan) {
                clock++;
            }
            switch (state) {
                case RESET:
                    beginAfter(RESET_TICKS, WAIT);
                    break;
                case WAIT:
                    beginAfter(PATIENCE_TICKS, READY);
                    break;
                case READY:
                    if (enabled || (auto && heard)) {
                        begin(STARTED);
                    }
                    break;
                case STARTED:
                    if (heard) {
                        begin(CONNECTING);
                    } else {
                        fallAfterPatience();
                    }
                    break;
                case CONNECTING:
                    fallAfterPatience();
                    break;
                default:
                    if (!enabled && !auto) {
                        fall();
                    }
                    break;
            }
        }

        private void begin(int next) {
            state = next;
            clock = 0;
        }

        private void beginAfter(int ticks, int next) {
            if (clock >= ticks) {
                begin(next);
            }
        }

        private void fallAfterPatience() {
            if (clock >= PATIENCE_TICKS) {
                fall();
            }
        }

        private void fall() {
            if (state == RUN) {
                in.breakOff();
                out.breakOff();
            }
            begin(RESET);
            loan = 0;
            owed = 0;
            heard = false;
            silence = 0;
            falls++;
        }

        void transmit() {
            sent = nextCharacter();
            sentSpoiled = sent != NONE && spoilNext;
            if (sentSpoiled) {
                spoilNext = false;
            }
        }

        private int nextCharacter() {
            switch (state) {
                case STARTED:
                    return IDLE;
                case CONNECTING:
                    return canLend() ? lend() : IDLE;
                case RUN:
                    return nextInRun();
                default:
                    return NONE;
            }
        }

        private int nextInRun() {
            if (askedTime != NONE) {
                int t = askedTime;
                askedTime = NONE;
                return FIRST_TIME + t;
            }
            if (canLend()) {
                return lend();
            }
            if (loan > 0 && out.size() > 0) {
                loan--;
                return out.removeFirst();
            }
            return IDLE;
        }

        private boolean canLend() {
            return in.size() + owed + LENT_AT_ONCE <= LENT_AT_MOST;
        }

        private int lend() {
            owed += LENT_AT_ONCE;
            return CREDIT;
        }

        int report(int what) {
            switch (what) {
                case 0:
                    return state;
                case 1:
                    return clock;
                case 2:
                    return loan;
                case 3:
                    return owed;
                case 4:
                    return out.size();
                case 5:
                    return in.size();
                case 6:
                    return falls;
                case 7:
                    return time;
                case 8:
                    return goodTimes;
                case 9:
                    return sent;
                default:
                    return BAD;
            }
        }
    }

    /** The memory, and what collects packets, obeys commands and replies to them. */
    private static final class Target {
        private final int[] bytes;
        private final Packet packet;
        private final Packet answer;
        private final Packet reply;
        private boolean replyWaits;
        private int commandCount;
        private int latestStatus;

        Target() {
            bytes = new int[MEMORY_BYTES];
            packet = new Packet(PACKET_PLACES);
            answer = new Packet(ANSWER_PLACES);
            reply = new Packet(PACKET_PLACES);
            latestStatus = NONE;
        }

        int byteAt(int address) {
            return address >= 0 && address < bytes.length ? bytes[address] : 0;
        }

        void act(End end) {
            if (replyWaits) {
                sendReply(end.out);
                return;
            }
            int c = end.in.removeFirst();
            if (c == NONE) {
                return;
            }
            if (isData(c)) {
                packet.add(c);
                return;
            }
            if (c == PACKET_END && holdsCommand()) {
                obey();
                sendReply(end.out);
            }
            packet.clear();
        }

        private boolean holdsCommand() {
            return packet.count > HEAD_BYTES
                    && packet.at(0) == TARGET_ADDRESS
                    && packet.at(1) == PROTOCOL
                    && packet.at(HEAD_BYTES) == packet.check(0, HEAD_BYTES);
        }

        private void sendReply(Outlet out) {
            if (replyWaits && out.free() >= reply.count) {
                out.acceptAll(reply);
                replyWaits = false;
            }
        }

        private void obey() {
            latestStatus = judge();
            commandCount++;
            answer.clear();
            int instruction = packet.at(2);
            if (isWrite(instruction)) {
                if (mayWrite(instruction)) {
                    writeData();
                }
            } else if (latestStatus == STATUS_GOOD) {
                fillAnswer(instruction);
                if (isChange(instruction)) {
                    changeBytes();
                }
            }
            if ((instruction & REPLY_BIT) != 0) {
                composeReply(instruction);
                replyWaits = true;
            }
        }

        private static boolean isWrite(int instruction) {
            return (instruction & WRITE_BIT) != 0;
        }

        private static boolean isRead(int instruction) {
            return (instruction & ~STEP_BIT) == COMMAND_BIT + REPLY_BIT;
        }

        private static boolean isChange(int instruction) {
            return instruction == COMMAND_BIT + VERIFY_BIT + REPLY_BIT + STEP_BIT;
        }

        private static boolean isKnown(int instruction) {
            if ((instruction & (COMMAND_BIT | FORBIDDEN_BITS)) != COMMAND_BIT) {
                return false;
            }
            return isWrite(instruction) || isRead(instruction) || isChange(instruction);
        }

        private int judge() {
            int instruction = packet.at(2);
            int length = packet.at(7);
            if (!isKnown(instruction)) {
                return STATUS_UNKNOWN;
            }
            if (packet.at(3) != TARGET_KEY) {
                return STATUS_KEY;
            }
            if (length > MAX_TARGET_LENGTH || (isChange(instruction) && !isChangeLength(length))) {
                return STATUS_LENGTH;
            }
            if (lastAddress(instruction) >= MEMORY_BYTES) {
                return STATUS_ADDRESS;
            }
            return isRead(instruction) ? STATUS_GOOD : judgeData(length);
        }

        private static boolean isChangeLength(int length) {
            return length >= 2 && length <= MAX_CHANGE_LENGTH && (length & 1) == 0;
        }

        private int lastAddress(int instruction) {
            int address = packet.at(6);
            return (instruction & STEP_BIT) != 0 ? address + Math.max(reach(instruction), 1) - 1 : address;
        }

        /** How many bytes of the memory a command speaks of: half of a change's data are its mask. */
        private int reach(int instruction) {
            int length = packet.at(7);
            return isChange(instruction) ? length / 2 : length;
        }

        private int dataCount() {
            return packet.count - DATA_START;
        }

        private int judgeData(int length) {
            if (dataCount() < length + 1) {
                return STATUS_TOO_FEW;
            }
            if (dataCount() > length + 1) {
                return STATUS_TOO_MANY;
            }
            boolean sound = packet.at(DATA_START + length) == packet.check(DATA_START, length);
            return sound ? STATUS_GOOD : STATUS_DATA_CHECK;
        }

        private boolean mayWrite(int instruction) {
            if (latestStatus == STATUS_GOOD) {
                return true;
            }
            boolean dataWrong = latestStatus == STATUS_DATA_CHECK
                    || latestStatus == STATUS_TOO_FEW || latestStatus == STATUS_TOO_MANY;
            return dataWrong && (instruction & VERIFY_BIT) == 0;
        }

        /** The k-th address of a command, which is the same for every k without STEP. */
        private int addressOf(int k) {
            int address = packet.at(6);
            return (packet.at(2) & STEP_BIT) != 0 ? address + k : address;
        }

        private void store(int address, int value) {
            if (address >= 0 && address < bytes.length) {
                bytes[address] = value;
            }
        }

        private void writeData() {
            int written = Math.min(packet.at(7), dataCount());
            for (int k = 0; k < written; k++) {
                store(addressOf(k), packet.at(DATA_START + k));
            }
        }

        private void fillAnswer(int instruction) {
            int answered = reach(instruction);
            for (int k = 0; k < answered; k++) {
                answer.add(byteAt(addressOf(k)));
            }
        }

        private void changeBytes() {
            int changed = answer.count;
            for (int k = 0; k < changed; k++) {
                int value = packet.at(DATA_START + k);
                int mask = packet.at(DATA_START + changed + k);
                store(addressOf(k), (value & mask) | (answer.at(k) & ~mask));
            }
        }

        private void composeReply(int instruction) {
            reply.clear();
            reply.add(REPLY_ADDRESS);
            reply.add(PROTOCOL);
            reply.add(instruction & ~COMMAND_BIT);
            reply.add(latestStatus);
            reply.add(packet.at(4));
            reply.add(packet.at(5));
            if (!isWrite(instruction)) {
                reply.add(answer.count);
            }
            reply.add(reply.check(0, reply.count));
            if (!isWrite(instruction)) {
                composeAnswer();
            }
            reply.add(PACKET_END);
        }

        private void composeAnswer() {
            for (int k = 0; k < answer.count; k++) {
                reply.add(answer.at(k));
            }
            reply.add(answer.check(0, answer.count));
        }
    }
}
